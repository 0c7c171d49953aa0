/-! that the tables are the class files', by program -/
def xrt (rk : Nat) : Option FieldType := match rk with
  | 1 => some .int
  | 2 => some .long
  | 3 => some .boolean
  | 4 => some .byte
  | 5 => some .char
  | _ => none
theorem kr_1 : ∀ w ∈ wsL_law_r1, w ∈ wsL_law := fun _ h => List.mem_append_left _ (List.mem_append_left _ (List.mem_append_left _ (List.mem_append_left _ (List.mem_append_left _ (List.mem_append_left _ (List.mem_append_left _ (List.mem_append_left _ (List.mem_append_left _ (List.mem_append_left _ h)))))))))
theorem kr_2 : ∀ w ∈ wsL_law_r2, w ∈ wsL_law := fun _ h => List.mem_append_left _ (List.mem_append_left _ (List.mem_append_left _ (List.mem_append_left _ (List.mem_append_left _ (List.mem_append_left _ (List.mem_append_left _ (List.mem_append_left _ (List.mem_append_left _ (List.mem_append_right _ (List.mem_append_left _ h))))))))))
theorem kr_3 : ∀ w ∈ wsL_law_r3, w ∈ wsL_law := fun _ h => List.mem_append_left _ (List.mem_append_left _ (List.mem_append_left _ (List.mem_append_left _ (List.mem_append_left _ (List.mem_append_left _ (List.mem_append_left _ (List.mem_append_left _ (List.mem_append_left _ (List.mem_append_right _ (List.mem_append_right _ (List.mem_append_left _ h)))))))))))
theorem kr_4 : ∀ w ∈ wsL_law_r4, w ∈ wsL_law := fun _ h => List.mem_append_left _ (List.mem_append_left _ (List.mem_append_left _ (List.mem_append_left _ (List.mem_append_left _ (List.mem_append_left _ (List.mem_append_left _ (List.mem_append_left _ (List.mem_append_left _ (List.mem_append_right _ (List.mem_append_right _ (List.mem_append_right _ (List.mem_append_left _ h))))))))))))
theorem kr_5 : ∀ w ∈ wsL_law_r5, w ∈ wsL_law := fun _ h => List.mem_append_left _ (List.mem_append_left _ (List.mem_append_left _ (List.mem_append_left _ (List.mem_append_left _ (List.mem_append_left _ (List.mem_append_left _ (List.mem_append_left _ (List.mem_append_left _ (List.mem_append_right _ (List.mem_append_right _ (List.mem_append_right _ (List.mem_append_right _ (List.mem_append_left _ h)))))))))))))
theorem kr_6 : ∀ w ∈ wsL_law_r6, w ∈ wsL_law := fun _ h => List.mem_append_left _ (List.mem_append_left _ (List.mem_append_left _ (List.mem_append_left _ (List.mem_append_left _ (List.mem_append_left _ (List.mem_append_left _ (List.mem_append_left _ (List.mem_append_left _ (List.mem_append_right _ (List.mem_append_right _ (List.mem_append_right _ (List.mem_append_right _ (List.mem_append_right _ (List.mem_append_left _ h))))))))))))))
theorem kr_7 : ∀ w ∈ wsL_law_r7, w ∈ wsL_law := fun _ h => List.mem_append_left _ (List.mem_append_left _ (List.mem_append_left _ (List.mem_append_left _ (List.mem_append_left _ (List.mem_append_left _ (List.mem_append_left _ (List.mem_append_left _ (List.mem_append_left _ (List.mem_append_right _ (List.mem_append_right _ (List.mem_append_right _ (List.mem_append_right _ (List.mem_append_right _ (List.mem_append_right _ (List.mem_append_left _ h)))))))))))))))
theorem kr_8 : ∀ w ∈ wsL_law_r8, w ∈ wsL_law := fun _ h => List.mem_append_left _ (List.mem_append_left _ (List.mem_append_left _ (List.mem_append_left _ (List.mem_append_left _ (List.mem_append_left _ (List.mem_append_left _ (List.mem_append_left _ (List.mem_append_left _ (List.mem_append_right _ (List.mem_append_right _ (List.mem_append_right _ (List.mem_append_right _ (List.mem_append_right _ (List.mem_append_right _ (List.mem_append_right _ (List.mem_append_left _ h))))))))))))))))
theorem kr_9 : ∀ w ∈ wsL_law_r9, w ∈ wsL_law := fun _ h => List.mem_append_left _ (List.mem_append_left _ (List.mem_append_left _ (List.mem_append_left _ (List.mem_append_left _ (List.mem_append_left _ (List.mem_append_left _ (List.mem_append_left _ (List.mem_append_left _ (List.mem_append_right _ (List.mem_append_right _ (List.mem_append_right _ (List.mem_append_right _ (List.mem_append_right _ (List.mem_append_right _ (List.mem_append_right _ (List.mem_append_right _ (List.mem_append_left _ h)))))))))))))))))
theorem kr_10 : ∀ w ∈ wsL_law_r10, w ∈ wsL_law := fun _ h => List.mem_append_left _ (List.mem_append_left _ (List.mem_append_left _ (List.mem_append_left _ (List.mem_append_left _ (List.mem_append_left _ (List.mem_append_left _ (List.mem_append_left _ (List.mem_append_left _ (List.mem_append_right _ (List.mem_append_right _ (List.mem_append_right _ (List.mem_append_right _ (List.mem_append_right _ (List.mem_append_right _ (List.mem_append_right _ (List.mem_append_right _ (List.mem_append_right _ (List.mem_append_left _ h))))))))))))))))))
theorem kr_11 : ∀ w ∈ wsL_law_r11, w ∈ wsL_law := fun _ h => List.mem_append_left _ (List.mem_append_left _ (List.mem_append_left _ (List.mem_append_left _ (List.mem_append_left _ (List.mem_append_left _ (List.mem_append_left _ (List.mem_append_left _ (List.mem_append_left _ (List.mem_append_right _ (List.mem_append_right _ (List.mem_append_right _ (List.mem_append_right _ (List.mem_append_right _ (List.mem_append_right _ (List.mem_append_right _ (List.mem_append_right _ (List.mem_append_right _ (List.mem_append_right _ (List.mem_append_left _ h)))))))))))))))))))
theorem kr_12 : ∀ w ∈ wsL_law_r12, w ∈ wsL_law := fun _ h => List.mem_append_left _ (List.mem_append_left _ (List.mem_append_left _ (List.mem_append_left _ (List.mem_append_left _ (List.mem_append_left _ (List.mem_append_left _ (List.mem_append_left _ (List.mem_append_left _ (List.mem_append_right _ (List.mem_append_right _ (List.mem_append_right _ (List.mem_append_right _ (List.mem_append_right _ (List.mem_append_right _ (List.mem_append_right _ (List.mem_append_right _ (List.mem_append_right _ (List.mem_append_right _ (List.mem_append_right _ (List.mem_append_left _ h))))))))))))))))))))
theorem kr_13 : ∀ w ∈ wsL_law_r13, w ∈ wsL_law := fun _ h => List.mem_append_left _ (List.mem_append_left _ (List.mem_append_left _ (List.mem_append_left _ (List.mem_append_left _ (List.mem_append_left _ (List.mem_append_left _ (List.mem_append_left _ (List.mem_append_left _ (List.mem_append_right _ (List.mem_append_right _ (List.mem_append_right _ (List.mem_append_right _ (List.mem_append_right _ (List.mem_append_right _ (List.mem_append_right _ (List.mem_append_right _ (List.mem_append_right _ (List.mem_append_right _ (List.mem_append_right _ (List.mem_append_right _ (List.mem_append_left _ h)))))))))))))))))))))
theorem kr_14 : ∀ w ∈ wsL_law_r14, w ∈ wsL_law := fun _ h => List.mem_append_left _ (List.mem_append_left _ (List.mem_append_left _ (List.mem_append_left _ (List.mem_append_left _ (List.mem_append_left _ (List.mem_append_left _ (List.mem_append_left _ (List.mem_append_left _ (List.mem_append_right _ (List.mem_append_right _ (List.mem_append_right _ (List.mem_append_right _ (List.mem_append_right _ (List.mem_append_right _ (List.mem_append_right _ (List.mem_append_right _ (List.mem_append_right _ (List.mem_append_right _ (List.mem_append_right _ (List.mem_append_right _ (List.mem_append_right _ (List.mem_append_left _ h))))))))))))))))))))))
theorem kr_15 : ∀ w ∈ wsL_law_r15, w ∈ wsL_law := fun _ h => List.mem_append_left _ (List.mem_append_left _ (List.mem_append_left _ (List.mem_append_left _ (List.mem_append_left _ (List.mem_append_left _ (List.mem_append_left _ (List.mem_append_left _ (List.mem_append_left _ (List.mem_append_right _ (List.mem_append_right _ (List.mem_append_right _ (List.mem_append_right _ (List.mem_append_right _ (List.mem_append_right _ (List.mem_append_right _ (List.mem_append_right _ (List.mem_append_right _ (List.mem_append_right _ (List.mem_append_right _ (List.mem_append_right _ (List.mem_append_right _ (List.mem_append_right _ (List.mem_append_left _ h)))))))))))))))))))))))
theorem kr_16 : ∀ w ∈ wsL_law_r16, w ∈ wsL_law := fun _ h => List.mem_append_left _ (List.mem_append_left _ (List.mem_append_left _ (List.mem_append_left _ (List.mem_append_left _ (List.mem_append_left _ (List.mem_append_left _ (List.mem_append_left _ (List.mem_append_left _ (List.mem_append_right _ (List.mem_append_right _ (List.mem_append_right _ (List.mem_append_right _ (List.mem_append_right _ (List.mem_append_right _ (List.mem_append_right _ (List.mem_append_right _ (List.mem_append_right _ (List.mem_append_right _ (List.mem_append_right _ (List.mem_append_right _ (List.mem_append_right _ (List.mem_append_right _ (List.mem_append_right _ (List.mem_append_left _ h))))))))))))))))))))))))
theorem kr_17 : ∀ w ∈ wsL_law_r17, w ∈ wsL_law := fun _ h => List.mem_append_left _ (List.mem_append_left _ (List.mem_append_left _ (List.mem_append_left _ (List.mem_append_left _ (List.mem_append_left _ (List.mem_append_left _ (List.mem_append_left _ (List.mem_append_left _ (List.mem_append_right _ (List.mem_append_right _ (List.mem_append_right _ (List.mem_append_right _ (List.mem_append_right _ (List.mem_append_right _ (List.mem_append_right _ (List.mem_append_right _ (List.mem_append_right _ (List.mem_append_right _ (List.mem_append_right _ (List.mem_append_right _ (List.mem_append_right _ (List.mem_append_right _ (List.mem_append_right _ (List.mem_append_right _ (List.mem_append_left _ h)))))))))))))))))))))))))
theorem kr_18 : ∀ w ∈ wsL_law_r18, w ∈ wsL_law := fun _ h => List.mem_append_left _ (List.mem_append_left _ (List.mem_append_left _ (List.mem_append_left _ (List.mem_append_left _ (List.mem_append_left _ (List.mem_append_left _ (List.mem_append_left _ (List.mem_append_left _ (List.mem_append_right _ (List.mem_append_right _ (List.mem_append_right _ (List.mem_append_right _ (List.mem_append_right _ (List.mem_append_right _ (List.mem_append_right _ (List.mem_append_right _ (List.mem_append_right _ (List.mem_append_right _ (List.mem_append_right _ (List.mem_append_right _ (List.mem_append_right _ (List.mem_append_right _ (List.mem_append_right _ (List.mem_append_right _ (List.mem_append_right _ (List.mem_append_left _ h))))))))))))))))))))))))))
theorem kr_19 : ∀ w ∈ wsL_law_r19, w ∈ wsL_law := fun _ h => List.mem_append_left _ (List.mem_append_left _ (List.mem_append_left _ (List.mem_append_left _ (List.mem_append_left _ (List.mem_append_left _ (List.mem_append_left _ (List.mem_append_left _ (List.mem_append_left _ (List.mem_append_right _ (List.mem_append_right _ (List.mem_append_right _ (List.mem_append_right _ (List.mem_append_right _ (List.mem_append_right _ (List.mem_append_right _ (List.mem_append_right _ (List.mem_append_right _ (List.mem_append_right _ (List.mem_append_right _ (List.mem_append_right _ (List.mem_append_right _ (List.mem_append_right _ (List.mem_append_right _ (List.mem_append_right _ (List.mem_append_right _ (List.mem_append_right _ (List.mem_append_left _ h)))))))))))))))))))))))))))
theorem kr_20 : ∀ w ∈ wsL_law_r20, w ∈ wsL_law := fun _ h => List.mem_append_left _ (List.mem_append_left _ (List.mem_append_left _ (List.mem_append_left _ (List.mem_append_left _ (List.mem_append_left _ (List.mem_append_left _ (List.mem_append_left _ (List.mem_append_left _ (List.mem_append_right _ (List.mem_append_right _ (List.mem_append_right _ (List.mem_append_right _ (List.mem_append_right _ (List.mem_append_right _ (List.mem_append_right _ (List.mem_append_right _ (List.mem_append_right _ (List.mem_append_right _ (List.mem_append_right _ (List.mem_append_right _ (List.mem_append_right _ (List.mem_append_right _ (List.mem_append_right _ (List.mem_append_right _ (List.mem_append_right _ (List.mem_append_right _ (List.mem_append_right _ (List.mem_append_left _ h))))))))))))))))))))))))))))
theorem kr_21 : ∀ w ∈ wsL_law_r21, w ∈ wsL_law := fun _ h => List.mem_append_left _ (List.mem_append_left _ (List.mem_append_left _ (List.mem_append_left _ (List.mem_append_left _ (List.mem_append_left _ (List.mem_append_left _ (List.mem_append_left _ (List.mem_append_left _ (List.mem_append_right _ (List.mem_append_right _ (List.mem_append_right _ (List.mem_append_right _ (List.mem_append_right _ (List.mem_append_right _ (List.mem_append_right _ (List.mem_append_right _ (List.mem_append_right _ (List.mem_append_right _ (List.mem_append_right _ (List.mem_append_right _ (List.mem_append_right _ (List.mem_append_right _ (List.mem_append_right _ (List.mem_append_right _ (List.mem_append_right _ (List.mem_append_right _ (List.mem_append_right _ (List.mem_append_right _ (List.mem_append_left _ h)))))))))))))))))))))))))))))
theorem kr_22 : ∀ w ∈ wsL_law_r22, w ∈ wsL_law := fun _ h => List.mem_append_left _ (List.mem_append_left _ (List.mem_append_left _ (List.mem_append_left _ (List.mem_append_left _ (List.mem_append_left _ (List.mem_append_left _ (List.mem_append_left _ (List.mem_append_left _ (List.mem_append_right _ (List.mem_append_right _ (List.mem_append_right _ (List.mem_append_right _ (List.mem_append_right _ (List.mem_append_right _ (List.mem_append_right _ (List.mem_append_right _ (List.mem_append_right _ (List.mem_append_right _ (List.mem_append_right _ (List.mem_append_right _ (List.mem_append_right _ (List.mem_append_right _ (List.mem_append_right _ (List.mem_append_right _ (List.mem_append_right _ (List.mem_append_right _ (List.mem_append_right _ (List.mem_append_right _ (List.mem_append_right _ (List.mem_append_left _ h))))))))))))))))))))))))))))))
theorem kr_23 : ∀ w ∈ wsL_law_r23, w ∈ wsL_law := fun _ h => List.mem_append_left _ (List.mem_append_left _ (List.mem_append_left _ (List.mem_append_left _ (List.mem_append_left _ (List.mem_append_left _ (List.mem_append_left _ (List.mem_append_left _ (List.mem_append_left _ (List.mem_append_right _ (List.mem_append_right _ (List.mem_append_right _ (List.mem_append_right _ (List.mem_append_right _ (List.mem_append_right _ (List.mem_append_right _ (List.mem_append_right _ (List.mem_append_right _ (List.mem_append_right _ (List.mem_append_right _ (List.mem_append_right _ (List.mem_append_right _ (List.mem_append_right _ (List.mem_append_right _ (List.mem_append_right _ (List.mem_append_right _ (List.mem_append_right _ (List.mem_append_right _ (List.mem_append_right _ (List.mem_append_right _ (List.mem_append_right _ (List.mem_append_left _ h)))))))))))))))))))))))))))))))
theorem kr_24 : ∀ w ∈ wsL_law_r24, w ∈ wsL_law := fun _ h => List.mem_append_left _ (List.mem_append_left _ (List.mem_append_left _ (List.mem_append_left _ (List.mem_append_left _ (List.mem_append_left _ (List.mem_append_left _ (List.mem_append_left _ (List.mem_append_left _ (List.mem_append_right _ (List.mem_append_right _ (List.mem_append_right _ (List.mem_append_right _ (List.mem_append_right _ (List.mem_append_right _ (List.mem_append_right _ (List.mem_append_right _ (List.mem_append_right _ (List.mem_append_right _ (List.mem_append_right _ (List.mem_append_right _ (List.mem_append_right _ (List.mem_append_right _ (List.mem_append_right _ (List.mem_append_right _ (List.mem_append_right _ (List.mem_append_right _ (List.mem_append_right _ (List.mem_append_right _ (List.mem_append_right _ (List.mem_append_right _ (List.mem_append_right _ (List.mem_append_left _ h))))))))))))))))))))))))))))))))
theorem kr_25 : ∀ w ∈ wsL_law_r25, w ∈ wsL_law := fun _ h => List.mem_append_left _ (List.mem_append_left _ (List.mem_append_left _ (List.mem_append_left _ (List.mem_append_left _ (List.mem_append_left _ (List.mem_append_left _ (List.mem_append_left _ (List.mem_append_left _ (List.mem_append_right _ (List.mem_append_right _ (List.mem_append_right _ (List.mem_append_right _ (List.mem_append_right _ (List.mem_append_right _ (List.mem_append_right _ (List.mem_append_right _ (List.mem_append_right _ (List.mem_append_right _ (List.mem_append_right _ (List.mem_append_right _ (List.mem_append_right _ (List.mem_append_right _ (List.mem_append_right _ (List.mem_append_right _ (List.mem_append_right _ (List.mem_append_right _ (List.mem_append_right _ (List.mem_append_right _ (List.mem_append_right _ (List.mem_append_right _ (List.mem_append_right _ (List.mem_append_right _ (List.mem_append_left _ h)))))))))))))))))))))))))))))))))
theorem kr_26 : ∀ w ∈ wsL_law_r26, w ∈ wsL_law := fun _ h => List.mem_append_left _ (List.mem_append_left _ (List.mem_append_left _ (List.mem_append_left _ (List.mem_append_left _ (List.mem_append_left _ (List.mem_append_left _ (List.mem_append_left _ (List.mem_append_left _ (List.mem_append_right _ (List.mem_append_right _ (List.mem_append_right _ (List.mem_append_right _ (List.mem_append_right _ (List.mem_append_right _ (List.mem_append_right _ (List.mem_append_right _ (List.mem_append_right _ (List.mem_append_right _ (List.mem_append_right _ (List.mem_append_right _ (List.mem_append_right _ (List.mem_append_right _ (List.mem_append_right _ (List.mem_append_right _ (List.mem_append_right _ (List.mem_append_right _ (List.mem_append_right _ (List.mem_append_right _ (List.mem_append_right _ (List.mem_append_right _ (List.mem_append_right _ (List.mem_append_right _ (List.mem_append_right _ (List.mem_append_left _ h))))))))))))))))))))))))))))))))))
theorem kr_27 : ∀ w ∈ wsL_law_r27, w ∈ wsL_law := fun _ h => List.mem_append_left _ (List.mem_append_left _ (List.mem_append_left _ (List.mem_append_left _ (List.mem_append_left _ (List.mem_append_left _ (List.mem_append_left _ (List.mem_append_left _ (List.mem_append_left _ (List.mem_append_right _ (List.mem_append_right _ (List.mem_append_right _ (List.mem_append_right _ (List.mem_append_right _ (List.mem_append_right _ (List.mem_append_right _ (List.mem_append_right _ (List.mem_append_right _ (List.mem_append_right _ (List.mem_append_right _ (List.mem_append_right _ (List.mem_append_right _ (List.mem_append_right _ (List.mem_append_right _ (List.mem_append_right _ (List.mem_append_right _ (List.mem_append_right _ (List.mem_append_right _ (List.mem_append_right _ (List.mem_append_right _ (List.mem_append_right _ (List.mem_append_right _ (List.mem_append_right _ (List.mem_append_right _ (List.mem_append_right _ (List.mem_append_left _ h)))))))))))))))))))))))))))))))))))
theorem kr_28 : ∀ w ∈ wsL_law_r28, w ∈ wsL_law := fun _ h => List.mem_append_left _ (List.mem_append_left _ (List.mem_append_left _ (List.mem_append_left _ (List.mem_append_left _ (List.mem_append_left _ (List.mem_append_left _ (List.mem_append_left _ (List.mem_append_left _ (List.mem_append_right _ (List.mem_append_right _ (List.mem_append_right _ (List.mem_append_right _ (List.mem_append_right _ (List.mem_append_right _ (List.mem_append_right _ (List.mem_append_right _ (List.mem_append_right _ (List.mem_append_right _ (List.mem_append_right _ (List.mem_append_right _ (List.mem_append_right _ (List.mem_append_right _ (List.mem_append_right _ (List.mem_append_right _ (List.mem_append_right _ (List.mem_append_right _ (List.mem_append_right _ (List.mem_append_right _ (List.mem_append_right _ (List.mem_append_right _ (List.mem_append_right _ (List.mem_append_right _ (List.mem_append_right _ (List.mem_append_right _ (List.mem_append_right _ (List.mem_append_left _ h))))))))))))))))))))))))))))))))))))
theorem kr_29 : ∀ w ∈ wsL_law_r29, w ∈ wsL_law := fun _ h => List.mem_append_left _ (List.mem_append_left _ (List.mem_append_left _ (List.mem_append_left _ (List.mem_append_left _ (List.mem_append_left _ (List.mem_append_left _ (List.mem_append_left _ (List.mem_append_left _ (List.mem_append_right _ (List.mem_append_right _ (List.mem_append_right _ (List.mem_append_right _ (List.mem_append_right _ (List.mem_append_right _ (List.mem_append_right _ (List.mem_append_right _ (List.mem_append_right _ (List.mem_append_right _ (List.mem_append_right _ (List.mem_append_right _ (List.mem_append_right _ (List.mem_append_right _ (List.mem_append_right _ (List.mem_append_right _ (List.mem_append_right _ (List.mem_append_right _ (List.mem_append_right _ (List.mem_append_right _ (List.mem_append_right _ (List.mem_append_right _ (List.mem_append_right _ (List.mem_append_right _ (List.mem_append_right _ (List.mem_append_right _ (List.mem_append_right _ (List.mem_append_right _ (List.mem_append_left _ h)))))))))))))))))))))))))))))))))))))
theorem kr_30 : ∀ w ∈ wsL_law_r30, w ∈ wsL_law := fun _ h => List.mem_append_left _ (List.mem_append_left _ (List.mem_append_left _ (List.mem_append_left _ (List.mem_append_left _ (List.mem_append_left _ (List.mem_append_left _ (List.mem_append_left _ (List.mem_append_left _ (List.mem_append_right _ (List.mem_append_right _ (List.mem_append_right _ (List.mem_append_right _ (List.mem_append_right _ (List.mem_append_right _ (List.mem_append_right _ (List.mem_append_right _ (List.mem_append_right _ (List.mem_append_right _ (List.mem_append_right _ (List.mem_append_right _ (List.mem_append_right _ (List.mem_append_right _ (List.mem_append_right _ (List.mem_append_right _ (List.mem_append_right _ (List.mem_append_right _ (List.mem_append_right _ (List.mem_append_right _ (List.mem_append_right _ (List.mem_append_right _ (List.mem_append_right _ (List.mem_append_right _ (List.mem_append_right _ (List.mem_append_right _ (List.mem_append_right _ (List.mem_append_right _ (List.mem_append_right _ (List.mem_append_left _ h))))))))))))))))))))))))))))))))))))))
theorem kr_31 : ∀ w ∈ wsL_law_r31, w ∈ wsL_law := fun _ h => List.mem_append_left _ (List.mem_append_left _ (List.mem_append_left _ (List.mem_append_left _ (List.mem_append_left _ (List.mem_append_left _ (List.mem_append_left _ (List.mem_append_left _ (List.mem_append_left _ (List.mem_append_right _ (List.mem_append_right _ (List.mem_append_right _ (List.mem_append_right _ (List.mem_append_right _ (List.mem_append_right _ (List.mem_append_right _ (List.mem_append_right _ (List.mem_append_right _ (List.mem_append_right _ (List.mem_append_right _ (List.mem_append_right _ (List.mem_append_right _ (List.mem_append_right _ (List.mem_append_right _ (List.mem_append_right _ (List.mem_append_right _ (List.mem_append_right _ (List.mem_append_right _ (List.mem_append_right _ (List.mem_append_right _ (List.mem_append_right _ (List.mem_append_right _ (List.mem_append_right _ (List.mem_append_right _ (List.mem_append_right _ (List.mem_append_right _ (List.mem_append_right _ (List.mem_append_right _ (List.mem_append_right _ (List.mem_append_left _ h)))))))))))))))))))))))))))))))))))))))
theorem kr_32 : ∀ w ∈ wsL_law_r32, w ∈ wsL_law := fun _ h => List.mem_append_left _ (List.mem_append_left _ (List.mem_append_left _ (List.mem_append_left _ (List.mem_append_left _ (List.mem_append_left _ (List.mem_append_left _ (List.mem_append_left _ (List.mem_append_left _ (List.mem_append_right _ (List.mem_append_right _ (List.mem_append_right _ (List.mem_append_right _ (List.mem_append_right _ (List.mem_append_right _ (List.mem_append_right _ (List.mem_append_right _ (List.mem_append_right _ (List.mem_append_right _ (List.mem_append_right _ (List.mem_append_right _ (List.mem_append_right _ (List.mem_append_right _ (List.mem_append_right _ (List.mem_append_right _ (List.mem_append_right _ (List.mem_append_right _ (List.mem_append_right _ (List.mem_append_right _ (List.mem_append_right _ (List.mem_append_right _ (List.mem_append_right _ (List.mem_append_right _ (List.mem_append_right _ (List.mem_append_right _ (List.mem_append_right _ (List.mem_append_right _ (List.mem_append_right _ (List.mem_append_right _ (List.mem_append_right _ (List.mem_append_left _ h))))))))))))))))))))))))))))))))))))))))
theorem kr_33 : ∀ w ∈ wsL_law_r33, w ∈ wsL_law := fun _ h => List.mem_append_left _ (List.mem_append_left _ (List.mem_append_left _ (List.mem_append_left _ (List.mem_append_left _ (List.mem_append_left _ (List.mem_append_left _ (List.mem_append_left _ (List.mem_append_left _ (List.mem_append_right _ (List.mem_append_right _ (List.mem_append_right _ (List.mem_append_right _ (List.mem_append_right _ (List.mem_append_right _ (List.mem_append_right _ (List.mem_append_right _ (List.mem_append_right _ (List.mem_append_right _ (List.mem_append_right _ (List.mem_append_right _ (List.mem_append_right _ (List.mem_append_right _ (List.mem_append_right _ (List.mem_append_right _ (List.mem_append_right _ (List.mem_append_right _ (List.mem_append_right _ (List.mem_append_right _ (List.mem_append_right _ (List.mem_append_right _ (List.mem_append_right _ (List.mem_append_right _ (List.mem_append_right _ (List.mem_append_right _ (List.mem_append_right _ (List.mem_append_right _ (List.mem_append_right _ (List.mem_append_right _ (List.mem_append_right _ (List.mem_append_right _ (List.mem_append_left _ h)))))))))))))))))))))))))))))))))))))))))
theorem kr_34 : ∀ w ∈ wsL_law_r34, w ∈ wsL_law := fun _ h => List.mem_append_left _ (List.mem_append_left _ (List.mem_append_left _ (List.mem_append_left _ (List.mem_append_left _ (List.mem_append_left _ (List.mem_append_left _ (List.mem_append_left _ (List.mem_append_left _ (List.mem_append_right _ (List.mem_append_right _ (List.mem_append_right _ (List.mem_append_right _ (List.mem_append_right _ (List.mem_append_right _ (List.mem_append_right _ (List.mem_append_right _ (List.mem_append_right _ (List.mem_append_right _ (List.mem_append_right _ (List.mem_append_right _ (List.mem_append_right _ (List.mem_append_right _ (List.mem_append_right _ (List.mem_append_right _ (List.mem_append_right _ (List.mem_append_right _ (List.mem_append_right _ (List.mem_append_right _ (List.mem_append_right _ (List.mem_append_right _ (List.mem_append_right _ (List.mem_append_right _ (List.mem_append_right _ (List.mem_append_right _ (List.mem_append_right _ (List.mem_append_right _ (List.mem_append_right _ (List.mem_append_right _ (List.mem_append_right _ (List.mem_append_right _ (List.mem_append_right _ (List.mem_append_left _ h))))))))))))))))))))))))))))))))))))))))))
theorem kr_35 : ∀ w ∈ wsL_law_r35, w ∈ wsL_law := fun _ h => List.mem_append_left _ (List.mem_append_left _ (List.mem_append_left _ (List.mem_append_left _ (List.mem_append_left _ (List.mem_append_left _ (List.mem_append_left _ (List.mem_append_left _ (List.mem_append_left _ (List.mem_append_right _ (List.mem_append_right _ (List.mem_append_right _ (List.mem_append_right _ (List.mem_append_right _ (List.mem_append_right _ (List.mem_append_right _ (List.mem_append_right _ (List.mem_append_right _ (List.mem_append_right _ (List.mem_append_right _ (List.mem_append_right _ (List.mem_append_right _ (List.mem_append_right _ (List.mem_append_right _ (List.mem_append_right _ (List.mem_append_right _ (List.mem_append_right _ (List.mem_append_right _ (List.mem_append_right _ (List.mem_append_right _ (List.mem_append_right _ (List.mem_append_right _ (List.mem_append_right _ (List.mem_append_right _ (List.mem_append_right _ (List.mem_append_right _ (List.mem_append_right _ (List.mem_append_right _ (List.mem_append_right _ (List.mem_append_right _ (List.mem_append_right _ (List.mem_append_right _ (List.mem_append_right _ (List.mem_append_left _ h)))))))))))))))))))))))))))))))))))))))))))
theorem kr_36 : ∀ w ∈ wsL_law_r36, w ∈ wsL_law := fun _ h => List.mem_append_left _ (List.mem_append_left _ (List.mem_append_left _ (List.mem_append_left _ (List.mem_append_left _ (List.mem_append_left _ (List.mem_append_left _ (List.mem_append_left _ (List.mem_append_left _ (List.mem_append_right _ (List.mem_append_right _ (List.mem_append_right _ (List.mem_append_right _ (List.mem_append_right _ (List.mem_append_right _ (List.mem_append_right _ (List.mem_append_right _ (List.mem_append_right _ (List.mem_append_right _ (List.mem_append_right _ (List.mem_append_right _ (List.mem_append_right _ (List.mem_append_right _ (List.mem_append_right _ (List.mem_append_right _ (List.mem_append_right _ (List.mem_append_right _ (List.mem_append_right _ (List.mem_append_right _ (List.mem_append_right _ (List.mem_append_right _ (List.mem_append_right _ (List.mem_append_right _ (List.mem_append_right _ (List.mem_append_right _ (List.mem_append_right _ (List.mem_append_right _ (List.mem_append_right _ (List.mem_append_right _ (List.mem_append_right _ (List.mem_append_right _ (List.mem_append_right _ (List.mem_append_right _ (List.mem_append_right _ (List.mem_append_left _ h))))))))))))))))))))))))))))))))))))))))))))
theorem kr_37 : ∀ w ∈ wsL_law_r37, w ∈ wsL_law := fun _ h => List.mem_append_left _ (List.mem_append_left _ (List.mem_append_left _ (List.mem_append_left _ (List.mem_append_left _ (List.mem_append_left _ (List.mem_append_left _ (List.mem_append_left _ (List.mem_append_left _ (List.mem_append_right _ (List.mem_append_right _ (List.mem_append_right _ (List.mem_append_right _ (List.mem_append_right _ (List.mem_append_right _ (List.mem_append_right _ (List.mem_append_right _ (List.mem_append_right _ (List.mem_append_right _ (List.mem_append_right _ (List.mem_append_right _ (List.mem_append_right _ (List.mem_append_right _ (List.mem_append_right _ (List.mem_append_right _ (List.mem_append_right _ (List.mem_append_right _ (List.mem_append_right _ (List.mem_append_right _ (List.mem_append_right _ (List.mem_append_right _ (List.mem_append_right _ (List.mem_append_right _ (List.mem_append_right _ (List.mem_append_right _ (List.mem_append_right _ (List.mem_append_right _ (List.mem_append_right _ (List.mem_append_right _ (List.mem_append_right _ (List.mem_append_right _ (List.mem_append_right _ (List.mem_append_right _ (List.mem_append_right _ (List.mem_append_right _ (List.mem_append_left _ h)))))))))))))))))))))))))))))))))))))))))))))
theorem kr_38 : ∀ w ∈ wsL_law_r38, w ∈ wsL_law := fun _ h => List.mem_append_left _ (List.mem_append_left _ (List.mem_append_left _ (List.mem_append_left _ (List.mem_append_left _ (List.mem_append_left _ (List.mem_append_left _ (List.mem_append_left _ (List.mem_append_left _ (List.mem_append_right _ (List.mem_append_right _ (List.mem_append_right _ (List.mem_append_right _ (List.mem_append_right _ (List.mem_append_right _ (List.mem_append_right _ (List.mem_append_right _ (List.mem_append_right _ (List.mem_append_right _ (List.mem_append_right _ (List.mem_append_right _ (List.mem_append_right _ (List.mem_append_right _ (List.mem_append_right _ (List.mem_append_right _ (List.mem_append_right _ (List.mem_append_right _ (List.mem_append_right _ (List.mem_append_right _ (List.mem_append_right _ (List.mem_append_right _ (List.mem_append_right _ (List.mem_append_right _ (List.mem_append_right _ (List.mem_append_right _ (List.mem_append_right _ (List.mem_append_right _ (List.mem_append_right _ (List.mem_append_right _ (List.mem_append_right _ (List.mem_append_right _ (List.mem_append_right _ (List.mem_append_right _ (List.mem_append_right _ (List.mem_append_right _ (List.mem_append_right _ (List.mem_append_left _ h))))))))))))))))))))))))))))))))))))))))))))))
theorem kr_39 : ∀ w ∈ wsL_law_r39, w ∈ wsL_law := fun _ h => List.mem_append_left _ (List.mem_append_left _ (List.mem_append_left _ (List.mem_append_left _ (List.mem_append_left _ (List.mem_append_left _ (List.mem_append_left _ (List.mem_append_left _ (List.mem_append_left _ (List.mem_append_right _ (List.mem_append_right _ (List.mem_append_right _ (List.mem_append_right _ (List.mem_append_right _ (List.mem_append_right _ (List.mem_append_right _ (List.mem_append_right _ (List.mem_append_right _ (List.mem_append_right _ (List.mem_append_right _ (List.mem_append_right _ (List.mem_append_right _ (List.mem_append_right _ (List.mem_append_right _ (List.mem_append_right _ (List.mem_append_right _ (List.mem_append_right _ (List.mem_append_right _ (List.mem_append_right _ (List.mem_append_right _ (List.mem_append_right _ (List.mem_append_right _ (List.mem_append_right _ (List.mem_append_right _ (List.mem_append_right _ (List.mem_append_right _ (List.mem_append_right _ (List.mem_append_right _ (List.mem_append_right _ (List.mem_append_right _ (List.mem_append_right _ (List.mem_append_right _ (List.mem_append_right _ (List.mem_append_right _ (List.mem_append_right _ (List.mem_append_right _ (List.mem_append_right _ (List.mem_append_left _ h)))))))))))))))))))))))))))))))))))))))))))))))
theorem kr_40 : ∀ w ∈ wsL_law_r40, w ∈ wsL_law := fun _ h => List.mem_append_left _ (List.mem_append_left _ (List.mem_append_left _ (List.mem_append_left _ (List.mem_append_left _ (List.mem_append_left _ (List.mem_append_left _ (List.mem_append_left _ (List.mem_append_left _ (List.mem_append_right _ (List.mem_append_right _ (List.mem_append_right _ (List.mem_append_right _ (List.mem_append_right _ (List.mem_append_right _ (List.mem_append_right _ (List.mem_append_right _ (List.mem_append_right _ (List.mem_append_right _ (List.mem_append_right _ (List.mem_append_right _ (List.mem_append_right _ (List.mem_append_right _ (List.mem_append_right _ (List.mem_append_right _ (List.mem_append_right _ (List.mem_append_right _ (List.mem_append_right _ (List.mem_append_right _ (List.mem_append_right _ (List.mem_append_right _ (List.mem_append_right _ (List.mem_append_right _ (List.mem_append_right _ (List.mem_append_right _ (List.mem_append_right _ (List.mem_append_right _ (List.mem_append_right _ (List.mem_append_right _ (List.mem_append_right _ (List.mem_append_right _ (List.mem_append_right _ (List.mem_append_right _ (List.mem_append_right _ (List.mem_append_right _ (List.mem_append_right _ (List.mem_append_right _ (List.mem_append_right _ (List.mem_append_left _ h))))))))))))))))))))))))))))))))))))))))))))))))
theorem kr_41 : ∀ w ∈ wsL_law_r41, w ∈ wsL_law := fun _ h => List.mem_append_left _ (List.mem_append_left _ (List.mem_append_left _ (List.mem_append_left _ (List.mem_append_left _ (List.mem_append_left _ (List.mem_append_left _ (List.mem_append_left _ (List.mem_append_left _ (List.mem_append_right _ (List.mem_append_right _ (List.mem_append_right _ (List.mem_append_right _ (List.mem_append_right _ (List.mem_append_right _ (List.mem_append_right _ (List.mem_append_right _ (List.mem_append_right _ (List.mem_append_right _ (List.mem_append_right _ (List.mem_append_right _ (List.mem_append_right _ (List.mem_append_right _ (List.mem_append_right _ (List.mem_append_right _ (List.mem_append_right _ (List.mem_append_right _ (List.mem_append_right _ (List.mem_append_right _ (List.mem_append_right _ (List.mem_append_right _ (List.mem_append_right _ (List.mem_append_right _ (List.mem_append_right _ (List.mem_append_right _ (List.mem_append_right _ (List.mem_append_right _ (List.mem_append_right _ (List.mem_append_right _ (List.mem_append_right _ (List.mem_append_right _ (List.mem_append_right _ (List.mem_append_right _ (List.mem_append_right _ (List.mem_append_right _ (List.mem_append_right _ (List.mem_append_right _ (List.mem_append_right _ (List.mem_append_right _ (List.mem_append_left _ h)))))))))))))))))))))))))))))))))))))))))))))))))
theorem kr_42 : ∀ w ∈ wsL_law_r42, w ∈ wsL_law := fun _ h => List.mem_append_left _ (List.mem_append_left _ (List.mem_append_left _ (List.mem_append_left _ (List.mem_append_left _ (List.mem_append_left _ (List.mem_append_left _ (List.mem_append_left _ (List.mem_append_left _ (List.mem_append_right _ (List.mem_append_right _ (List.mem_append_right _ (List.mem_append_right _ (List.mem_append_right _ (List.mem_append_right _ (List.mem_append_right _ (List.mem_append_right _ (List.mem_append_right _ (List.mem_append_right _ (List.mem_append_right _ (List.mem_append_right _ (List.mem_append_right _ (List.mem_append_right _ (List.mem_append_right _ (List.mem_append_right _ (List.mem_append_right _ (List.mem_append_right _ (List.mem_append_right _ (List.mem_append_right _ (List.mem_append_right _ (List.mem_append_right _ (List.mem_append_right _ (List.mem_append_right _ (List.mem_append_right _ (List.mem_append_right _ (List.mem_append_right _ (List.mem_append_right _ (List.mem_append_right _ (List.mem_append_right _ (List.mem_append_right _ (List.mem_append_right _ (List.mem_append_right _ (List.mem_append_right _ (List.mem_append_right _ (List.mem_append_right _ (List.mem_append_right _ (List.mem_append_right _ (List.mem_append_right _ (List.mem_append_right _ (List.mem_append_right _ (List.mem_append_left _ h))))))))))))))))))))))))))))))))))))))))))))))))))
theorem kr_43 : ∀ w ∈ wsL_law_r43, w ∈ wsL_law := fun _ h => List.mem_append_left _ (List.mem_append_left _ (List.mem_append_left _ (List.mem_append_left _ (List.mem_append_left _ (List.mem_append_left _ (List.mem_append_left _ (List.mem_append_left _ (List.mem_append_left _ (List.mem_append_right _ (List.mem_append_right _ (List.mem_append_right _ (List.mem_append_right _ (List.mem_append_right _ (List.mem_append_right _ (List.mem_append_right _ (List.mem_append_right _ (List.mem_append_right _ (List.mem_append_right _ (List.mem_append_right _ (List.mem_append_right _ (List.mem_append_right _ (List.mem_append_right _ (List.mem_append_right _ (List.mem_append_right _ (List.mem_append_right _ (List.mem_append_right _ (List.mem_append_right _ (List.mem_append_right _ (List.mem_append_right _ (List.mem_append_right _ (List.mem_append_right _ (List.mem_append_right _ (List.mem_append_right _ (List.mem_append_right _ (List.mem_append_right _ (List.mem_append_right _ (List.mem_append_right _ (List.mem_append_right _ (List.mem_append_right _ (List.mem_append_right _ (List.mem_append_right _ (List.mem_append_right _ (List.mem_append_right _ (List.mem_append_right _ (List.mem_append_right _ (List.mem_append_right _ (List.mem_append_right _ (List.mem_append_right _ (List.mem_append_right _ (List.mem_append_right _ (List.mem_append_left _ h)))))))))))))))))))))))))))))))))))))))))))))))))))
theorem kr_44 : ∀ w ∈ wsL_law_r44, w ∈ wsL_law := fun _ h => List.mem_append_left _ (List.mem_append_left _ (List.mem_append_left _ (List.mem_append_left _ (List.mem_append_left _ (List.mem_append_left _ (List.mem_append_left _ (List.mem_append_left _ (List.mem_append_left _ (List.mem_append_right _ (List.mem_append_right _ (List.mem_append_right _ (List.mem_append_right _ (List.mem_append_right _ (List.mem_append_right _ (List.mem_append_right _ (List.mem_append_right _ (List.mem_append_right _ (List.mem_append_right _ (List.mem_append_right _ (List.mem_append_right _ (List.mem_append_right _ (List.mem_append_right _ (List.mem_append_right _ (List.mem_append_right _ (List.mem_append_right _ (List.mem_append_right _ (List.mem_append_right _ (List.mem_append_right _ (List.mem_append_right _ (List.mem_append_right _ (List.mem_append_right _ (List.mem_append_right _ (List.mem_append_right _ (List.mem_append_right _ (List.mem_append_right _ (List.mem_append_right _ (List.mem_append_right _ (List.mem_append_right _ (List.mem_append_right _ (List.mem_append_right _ (List.mem_append_right _ (List.mem_append_right _ (List.mem_append_right _ (List.mem_append_right _ (List.mem_append_right _ (List.mem_append_right _ (List.mem_append_right _ (List.mem_append_right _ (List.mem_append_right _ (List.mem_append_right _ (List.mem_append_right _ (List.mem_append_left _ h))))))))))))))))))))))))))))))))))))))))))))))))))))
theorem kr_45 : ∀ w ∈ wsL_law_r45, w ∈ wsL_law := fun _ h => List.mem_append_left _ (List.mem_append_left _ (List.mem_append_left _ (List.mem_append_left _ (List.mem_append_left _ (List.mem_append_left _ (List.mem_append_left _ (List.mem_append_left _ (List.mem_append_left _ (List.mem_append_right _ (List.mem_append_right _ (List.mem_append_right _ (List.mem_append_right _ (List.mem_append_right _ (List.mem_append_right _ (List.mem_append_right _ (List.mem_append_right _ (List.mem_append_right _ (List.mem_append_right _ (List.mem_append_right _ (List.mem_append_right _ (List.mem_append_right _ (List.mem_append_right _ (List.mem_append_right _ (List.mem_append_right _ (List.mem_append_right _ (List.mem_append_right _ (List.mem_append_right _ (List.mem_append_right _ (List.mem_append_right _ (List.mem_append_right _ (List.mem_append_right _ (List.mem_append_right _ (List.mem_append_right _ (List.mem_append_right _ (List.mem_append_right _ (List.mem_append_right _ (List.mem_append_right _ (List.mem_append_right _ (List.mem_append_right _ (List.mem_append_right _ (List.mem_append_right _ (List.mem_append_right _ (List.mem_append_right _ (List.mem_append_right _ (List.mem_append_right _ (List.mem_append_right _ (List.mem_append_right _ (List.mem_append_right _ (List.mem_append_right _ (List.mem_append_right _ (List.mem_append_right _ (List.mem_append_right _ (List.mem_append_left _ h)))))))))))))))))))))))))))))))))))))))))))))))))))))
theorem kr_46 : ∀ w ∈ wsL_law_r46, w ∈ wsL_law := fun _ h => List.mem_append_left _ (List.mem_append_left _ (List.mem_append_left _ (List.mem_append_left _ (List.mem_append_left _ (List.mem_append_left _ (List.mem_append_left _ (List.mem_append_left _ (List.mem_append_left _ (List.mem_append_right _ (List.mem_append_right _ (List.mem_append_right _ (List.mem_append_right _ (List.mem_append_right _ (List.mem_append_right _ (List.mem_append_right _ (List.mem_append_right _ (List.mem_append_right _ (List.mem_append_right _ (List.mem_append_right _ (List.mem_append_right _ (List.mem_append_right _ (List.mem_append_right _ (List.mem_append_right _ (List.mem_append_right _ (List.mem_append_right _ (List.mem_append_right _ (List.mem_append_right _ (List.mem_append_right _ (List.mem_append_right _ (List.mem_append_right _ (List.mem_append_right _ (List.mem_append_right _ (List.mem_append_right _ (List.mem_append_right _ (List.mem_append_right _ (List.mem_append_right _ (List.mem_append_right _ (List.mem_append_right _ (List.mem_append_right _ (List.mem_append_right _ (List.mem_append_right _ (List.mem_append_right _ (List.mem_append_right _ (List.mem_append_right _ (List.mem_append_right _ (List.mem_append_right _ (List.mem_append_right _ (List.mem_append_right _ (List.mem_append_right _ (List.mem_append_right _ (List.mem_append_right _ (List.mem_append_right _ (List.mem_append_right _ (List.mem_append_left _ h))))))))))))))))))))))))))))))))))))))))))))))))))))))
theorem kr_47 : ∀ w ∈ wsL_law_r47, w ∈ wsL_law := fun _ h => List.mem_append_left _ (List.mem_append_left _ (List.mem_append_left _ (List.mem_append_left _ (List.mem_append_left _ (List.mem_append_left _ (List.mem_append_left _ (List.mem_append_left _ (List.mem_append_left _ (List.mem_append_right _ (List.mem_append_right _ (List.mem_append_right _ (List.mem_append_right _ (List.mem_append_right _ (List.mem_append_right _ (List.mem_append_right _ (List.mem_append_right _ (List.mem_append_right _ (List.mem_append_right _ (List.mem_append_right _ (List.mem_append_right _ (List.mem_append_right _ (List.mem_append_right _ (List.mem_append_right _ (List.mem_append_right _ (List.mem_append_right _ (List.mem_append_right _ (List.mem_append_right _ (List.mem_append_right _ (List.mem_append_right _ (List.mem_append_right _ (List.mem_append_right _ (List.mem_append_right _ (List.mem_append_right _ (List.mem_append_right _ (List.mem_append_right _ (List.mem_append_right _ (List.mem_append_right _ (List.mem_append_right _ (List.mem_append_right _ (List.mem_append_right _ (List.mem_append_right _ (List.mem_append_right _ (List.mem_append_right _ (List.mem_append_right _ (List.mem_append_right _ (List.mem_append_right _ (List.mem_append_right _ (List.mem_append_right _ (List.mem_append_right _ (List.mem_append_right _ (List.mem_append_right _ (List.mem_append_right _ (List.mem_append_right _ (List.mem_append_right _ (List.mem_append_left _ h)))))))))))))))))))))))))))))))))))))))))))))))))))))))
theorem kr_48 : ∀ w ∈ wsL_law_r48, w ∈ wsL_law := fun _ h => List.mem_append_left _ (List.mem_append_left _ (List.mem_append_left _ (List.mem_append_left _ (List.mem_append_left _ (List.mem_append_left _ (List.mem_append_left _ (List.mem_append_left _ (List.mem_append_left _ (List.mem_append_right _ (List.mem_append_right _ (List.mem_append_right _ (List.mem_append_right _ (List.mem_append_right _ (List.mem_append_right _ (List.mem_append_right _ (List.mem_append_right _ (List.mem_append_right _ (List.mem_append_right _ (List.mem_append_right _ (List.mem_append_right _ (List.mem_append_right _ (List.mem_append_right _ (List.mem_append_right _ (List.mem_append_right _ (List.mem_append_right _ (List.mem_append_right _ (List.mem_append_right _ (List.mem_append_right _ (List.mem_append_right _ (List.mem_append_right _ (List.mem_append_right _ (List.mem_append_right _ (List.mem_append_right _ (List.mem_append_right _ (List.mem_append_right _ (List.mem_append_right _ (List.mem_append_right _ (List.mem_append_right _ (List.mem_append_right _ (List.mem_append_right _ (List.mem_append_right _ (List.mem_append_right _ (List.mem_append_right _ (List.mem_append_right _ (List.mem_append_right _ (List.mem_append_right _ (List.mem_append_right _ (List.mem_append_right _ (List.mem_append_right _ (List.mem_append_right _ (List.mem_append_right _ (List.mem_append_right _ (List.mem_append_right _ (List.mem_append_right _ (List.mem_append_right _ (List.mem_append_left _ h))))))))))))))))))))))))))))))))))))))))))))))))))))))))
theorem kr_49 : ∀ w ∈ wsL_law_r49, w ∈ wsL_law := fun _ h => List.mem_append_left _ (List.mem_append_left _ (List.mem_append_left _ (List.mem_append_left _ (List.mem_append_left _ (List.mem_append_left _ (List.mem_append_left _ (List.mem_append_left _ (List.mem_append_left _ (List.mem_append_right _ (List.mem_append_right _ (List.mem_append_right _ (List.mem_append_right _ (List.mem_append_right _ (List.mem_append_right _ (List.mem_append_right _ (List.mem_append_right _ (List.mem_append_right _ (List.mem_append_right _ (List.mem_append_right _ (List.mem_append_right _ (List.mem_append_right _ (List.mem_append_right _ (List.mem_append_right _ (List.mem_append_right _ (List.mem_append_right _ (List.mem_append_right _ (List.mem_append_right _ (List.mem_append_right _ (List.mem_append_right _ (List.mem_append_right _ (List.mem_append_right _ (List.mem_append_right _ (List.mem_append_right _ (List.mem_append_right _ (List.mem_append_right _ (List.mem_append_right _ (List.mem_append_right _ (List.mem_append_right _ (List.mem_append_right _ (List.mem_append_right _ (List.mem_append_right _ (List.mem_append_right _ (List.mem_append_right _ (List.mem_append_right _ (List.mem_append_right _ (List.mem_append_right _ (List.mem_append_right _ (List.mem_append_right _ (List.mem_append_right _ (List.mem_append_right _ (List.mem_append_right _ (List.mem_append_right _ (List.mem_append_right _ (List.mem_append_right _ (List.mem_append_right _ (List.mem_append_right _ (h)))))))))))))))))))))))))))))))))))))))))))))))))))))))))
theorem kw_1_2 : Cond.initialized RX6 ∈ wsL_law := kr_1 _ (List.mem_of_getElem? (i := 2) rfl)
theorem kw_1_5 : Cond.initialized RX7 ∈ wsL_law := kr_1 _ (List.mem_of_getElem? (i := 5) rfl)
theorem kw_1_7 : Cond.instanceMethod yX6_init ∈ wsL_law := kr_1 _ (List.mem_of_getElem? (i := 7) rfl)
theorem kw_1_8 : Cond.code yX6_init cX6_init 2 none ∈ wsL_law := kr_1 _ (List.mem_of_getElem? (i := 8) rfl)
theorem kw_1_9 : Cond.methodLink RX6 1 objectInit ∈ wsL_law := kr_1 _ (List.mem_of_getElem? (i := 9) rfl)
theorem kw_1_10 : Cond.instanceMethod objectInit ∈ wsL_law := kr_1 _ (List.mem_of_getElem? (i := 10) rfl)
theorem kw_1_11 : Cond.code objectInit ⟨#[0xb1]⟩ 1 none ∈ wsL_law := kr_1 _ (List.mem_of_getElem? (i := 11) rfl)
theorem kw_1_12 : Cond.classLink RX6 7 RX4 ∈ wsL_law := kr_1 _ (List.mem_of_getElem? (i := 12) rfl)
theorem kw_1_13 : Cond.instantiable RX4 6 ∈ wsL_law := kr_1 _ (List.mem_of_getElem? (i := 13) rfl)
theorem kw_1_14 : Cond.initialized RX4 ∈ wsL_law := kr_1 _ (List.mem_of_getElem? (i := 14) rfl)
theorem kw_1_15 : Cond.fieldLink RX6 10 "StreetTillTen" "tape" "LStreetTillTen$Tape;" ∈ wsL_law := kr_1 _ (List.mem_of_getElem? (i := 15) rfl)
theorem kw_1_16 : Cond.classLink RX6 16 RX5 ∈ wsL_law := kr_1 _ (List.mem_of_getElem? (i := 16) rfl)
theorem kw_1_17 : Cond.fieldLink RX6 18 "StreetTillTen" "texts" "[LStreetTillTen$Text;" ∈ wsL_law := kr_1 _ (List.mem_of_getElem? (i := 17) rfl)
theorem kw_1_18 : Cond.classLink RX6 22 RX0 ∈ wsL_law := kr_1 _ (List.mem_of_getElem? (i := 18) rfl)
theorem kw_1_19 : Cond.instantiable RX0 2 ∈ wsL_law := kr_1 _ (List.mem_of_getElem? (i := 19) rfl)
theorem kw_1_20 : Cond.initialized RX0 ∈ wsL_law := kr_1 _ (List.mem_of_getElem? (i := 20) rfl)
theorem kw_1_21 : Cond.fieldLink RX6 25 "StreetTillTen" "circle" "LStreetTillTen$Circle;" ∈ wsL_law := kr_1 _ (List.mem_of_getElem? (i := 21) rfl)
theorem kw_1_22 : Cond.classLink RX6 29 RX2 ∈ wsL_law := kr_1 _ (List.mem_of_getElem? (i := 22) rfl)
theorem kw_1_23 : Cond.fieldLink RX6 31 "StreetTillTen" "sheets" "[LStreetTillTen$Sheet;" ∈ wsL_law := kr_1 _ (List.mem_of_getElem? (i := 23) rfl)
theorem kw_2_0 : Cond.instantiable RX5 5 ∈ wsL_law := kr_2 _ (List.mem_of_getElem? (i := 0) rfl)
theorem kw_2_1 : Cond.initialized RX5 ∈ wsL_law := kr_2 _ (List.mem_of_getElem? (i := 1) rfl)
theorem kw_2_2 : Cond.instantiable RX2 3 ∈ wsL_law := kr_2 _ (List.mem_of_getElem? (i := 2) rfl)
theorem kw_2_3 : Cond.initialized RX2 ∈ wsL_law := kr_2 _ (List.mem_of_getElem? (i := 3) rfl)
theorem kw_2_4 : Cond.classLink RX6 55 RX1 ∈ wsL_law := kr_2 _ (List.mem_of_getElem? (i := 4) rfl)
theorem kw_2_5 : Cond.instantiable RX1 5 ∈ wsL_law := kr_2 _ (List.mem_of_getElem? (i := 5) rfl)
theorem kw_2_6 : Cond.initialized RX1 ∈ wsL_law := kr_2 _ (List.mem_of_getElem? (i := 6) rfl)
theorem kw_2_7 : Cond.fieldLink RX6 60 "StreetTillTen" "reader" "LStreetTillTen$Reader;" ∈ wsL_law := kr_2 _ (List.mem_of_getElem? (i := 7) rfl)
theorem kw_2_8 : Cond.fieldLink RX6 71 "StreetTillTen" "textCount" "I" ∈ wsL_law := kr_2 _ (List.mem_of_getElem? (i := 8) rfl)
theorem kw_2_9 : Cond.classLink RX6 75 RX3 ∈ wsL_law := kr_2 _ (List.mem_of_getElem? (i := 9) rfl)
theorem kw_2_10 : Cond.instantiable RX3 9 ∈ wsL_law := kr_2 _ (List.mem_of_getElem? (i := 10) rfl)
theorem kw_2_11 : Cond.initialized RX3 ∈ wsL_law := kr_2 _ (List.mem_of_getElem? (i := 11) rfl)
theorem kw_2_12 : Cond.fieldLink RX6 80 "StreetTillTen" "now" "LStreetTillTen$Street;" ∈ wsL_law := kr_2 _ (List.mem_of_getElem? (i := 12) rfl)
theorem kw_2_13 : Cond.fieldLink RX6 84 "StreetTillTen" "thought" "LStreetTillTen$Street;" ∈ wsL_law := kr_2 _ (List.mem_of_getElem? (i := 13) rfl)
theorem kw_2_14 : Cond.fieldLink RX6 87 "StreetTillTen" "kept" "LStreetTillTen$Street;" ∈ wsL_law := kr_2 _ (List.mem_of_getElem? (i := 14) rfl)
theorem kw_2_15 : Cond.instanceMethod yX4_init ∈ wsL_law := kr_2 _ (List.mem_of_getElem? (i := 15) rfl)
theorem kw_2_16 : Cond.code yX4_init cX4_init 1 none ∈ wsL_law := kr_2 _ (List.mem_of_getElem? (i := 16) rfl)
theorem kw_2_17 : Cond.methodLink RX4 3 objectInit ∈ wsL_law := kr_2 _ (List.mem_of_getElem? (i := 17) rfl)
theorem kw_2_18 : Cond.arrayClass .int ∈ wsL_law := kr_2 _ (List.mem_of_getElem? (i := 18) rfl)
theorem kw_2_19 : Cond.fieldLink RX4 11 "StreetTillTen$Tape" "tokens" "[I" ∈ wsL_law := kr_2 _ (List.mem_of_getElem? (i := 19) rfl)
theorem kw_2_20 : Cond.fieldLink RX4 15 "StreetTillTen$Tape" "starts" "[I" ∈ wsL_law := kr_2 _ (List.mem_of_getElem? (i := 20) rfl)
theorem kw_2_21 : Cond.fieldLink RX4 18 "StreetTillTen$Tape" "steps" "[I" ∈ wsL_law := kr_2 _ (List.mem_of_getElem? (i := 21) rfl)
theorem kw_2_22 : Cond.fieldLink RX4 21 "StreetTillTen$Tape" "letters" "[I" ∈ wsL_law := kr_2 _ (List.mem_of_getElem? (i := 22) rfl)
theorem kw_2_23 : Cond.instanceMethod yX0_init ∈ wsL_law := kr_2 _ (List.mem_of_getElem? (i := 23) rfl)
theorem kw_3_0 : Cond.code yX0_init cX0_init 1 none ∈ wsL_law := kr_3 _ (List.mem_of_getElem? (i := 0) rfl)
theorem kw_3_1 : Cond.methodLink RX0 3 objectInit ∈ wsL_law := kr_3 _ (List.mem_of_getElem? (i := 1) rfl)
theorem kw_3_2 : Cond.fieldLink RX0 9 "StreetTillTen$Circle" "known" "[I" ∈ wsL_law := kr_3 _ (List.mem_of_getElem? (i := 2) rfl)
theorem kw_3_3 : Cond.methodLink RX6 35 yX5_init ∈ wsL_law := kr_3 _ (List.mem_of_getElem? (i := 3) rfl)
theorem kw_3_4 : Cond.instanceMethod yX5_init ∈ wsL_law := kr_3 _ (List.mem_of_getElem? (i := 4) rfl)
theorem kw_3_5 : Cond.code yX5_init cX5_init 2 none ∈ wsL_law := kr_3 _ (List.mem_of_getElem? (i := 5) rfl)
theorem kw_3_6 : Cond.methodLink RX5 1 objectInit ∈ wsL_law := kr_3 _ (List.mem_of_getElem? (i := 6) rfl)
theorem kw_3_7 : Cond.fieldLink RX5 9 "StreetTillTen$Text" "steps" "[I" ∈ wsL_law := kr_3 _ (List.mem_of_getElem? (i := 7) rfl)
theorem kw_3_8 : Cond.fieldLink RX5 15 "StreetTillTen$Text" "ends" "[I" ∈ wsL_law := kr_3 _ (List.mem_of_getElem? (i := 8) rfl)
theorem kw_3_9 : Cond.fieldLink RX5 18 "StreetTillTen$Text" "pile" "[I" ∈ wsL_law := kr_3 _ (List.mem_of_getElem? (i := 9) rfl)
theorem kw_3_10 : Cond.fieldLink RX5 21 "StreetTillTen$Text" "place" "I" ∈ wsL_law := kr_3 _ (List.mem_of_getElem? (i := 10) rfl)
theorem kw_3_11 : Cond.instanceMethod yX2_init ∈ wsL_law := kr_3 _ (List.mem_of_getElem? (i := 11) rfl)
theorem kw_3_12 : Cond.code yX2_init cX2_init 1 none ∈ wsL_law := kr_3 _ (List.mem_of_getElem? (i := 12) rfl)
theorem kw_3_13 : Cond.methodLink RX2 3 objectInit ∈ wsL_law := kr_3 _ (List.mem_of_getElem? (i := 13) rfl)
theorem kw_3_14 : Cond.fieldLink RX2 9 "StreetTillTen$Sheet" "sort" "I" ∈ wsL_law := kr_3 _ (List.mem_of_getElem? (i := 14) rfl)
theorem kw_3_15 : Cond.fieldLink RX2 15 "StreetTillTen$Sheet" "items" "[I" ∈ wsL_law := kr_3 _ (List.mem_of_getElem? (i := 15) rfl)
theorem kw_3_16 : Cond.methodLink RX6 41 yJ0_length_8abf5 ∈ wsL_law := kr_3 _ (List.mem_of_getElem? (i := 16) rfl)
theorem kw_3_17 : Cond.instanceMethod yJ0_length_8abf5 ∈ wsL_law := kr_3 _ (List.mem_of_getElem? (i := 17) rfl)
theorem kw_3_18 : Cond.selects RJ0 yJ0_length_8abf5 yJ0_length_8abf5 ∈ wsL_law := kr_3 _ (List.mem_of_getElem? (i := 18) rfl)
theorem kw_3_19 : Cond.initialized RJ0 ∈ wsL_law := kr_3 _ (List.mem_of_getElem? (i := 19) rfl)
theorem kw_3_20 : Cond.code yJ0_length_8abf5 cJ0_length_8abf5 1 (some .int) ∈ wsL_law := kr_3 _ (List.mem_of_getElem? (i := 20) rfl)
theorem kw_3_21 : Cond.fieldLink RJ0 9 "java/lang/String" "value" "[B" ∈ wsL_law := kr_3 _ (List.mem_of_getElem? (i := 21) rfl)
theorem kw_3_22 : Cond.methodLink RJ0 335 yJ0_coder_7d493 ∈ wsL_law := kr_3 _ (List.mem_of_getElem? (i := 22) rfl)
theorem kw_3_23 : Cond.instanceMethod yJ0_coder_7d493 ∈ wsL_law := kr_3 _ (List.mem_of_getElem? (i := 23) rfl)
theorem kw_4_0 : Cond.selects RJ0 yJ0_coder_7d493 yJ0_coder_7d493 ∈ wsL_law := kr_4 _ (List.mem_of_getElem? (i := 0) rfl)
theorem kw_4_1 : Cond.code yJ0_coder_7d493 cJ0_coder_7d493 1 (some .byte) ∈ wsL_law := kr_4 _ (List.mem_of_getElem? (i := 1) rfl)
theorem kw_4_2 : Cond.fieldLink RJ0 38 "java/lang/String" "COMPACT_STRINGS" "Z" ∈ wsL_law := kr_4 _ (List.mem_of_getElem? (i := 2) rfl)
theorem kw_4_3 : Cond.fieldLink RJ0 15 "java/lang/String" "coder" "B" ∈ wsL_law := kr_4 _ (List.mem_of_getElem? (i := 3) rfl)
theorem kw_4_4 : Cond.methodLink RX6 47 yJ0_charAt_5068e ∈ wsL_law := kr_4 _ (List.mem_of_getElem? (i := 4) rfl)
theorem kw_4_5 : Cond.instanceMethod yJ0_charAt_5068e ∈ wsL_law := kr_4 _ (List.mem_of_getElem? (i := 5) rfl)
theorem kw_4_6 : Cond.selects RJ0 yJ0_charAt_5068e yJ0_charAt_5068e ∈ wsL_law := kr_4 _ (List.mem_of_getElem? (i := 6) rfl)
theorem kw_4_7 : Cond.code yJ0_charAt_5068e cJ0_charAt_5068e 2 (some .char) ∈ wsL_law := kr_4 _ (List.mem_of_getElem? (i := 7) rfl)
theorem kw_4_8 : Cond.methodLink RJ0 492 yJ0_isLatin1_aae02 ∈ wsL_law := kr_4 _ (List.mem_of_getElem? (i := 8) rfl)
theorem kw_4_9 : Cond.instanceMethod yJ0_isLatin1_aae02 ∈ wsL_law := kr_4 _ (List.mem_of_getElem? (i := 9) rfl)
theorem kw_4_10 : Cond.selects RJ0 yJ0_isLatin1_aae02 yJ0_isLatin1_aae02 ∈ wsL_law := kr_4 _ (List.mem_of_getElem? (i := 10) rfl)
theorem kw_4_11 : Cond.code yJ0_isLatin1_aae02 cJ0_isLatin1_aae02 1 (some .boolean) ∈ wsL_law := kr_4 _ (List.mem_of_getElem? (i := 11) rfl)
theorem kw_4_12 : Cond.methodLink RJ0 495 yJ1_charAt_3b067 ∈ wsL_law := kr_4 _ (List.mem_of_getElem? (i := 12) rfl)
theorem kw_4_13 : Cond.static yJ1_charAt_3b067 ∈ wsL_law := kr_4 _ (List.mem_of_getElem? (i := 13) rfl)
theorem kw_4_14 : Cond.initialized RJ1 ∈ wsL_law := kr_4 _ (List.mem_of_getElem? (i := 14) rfl)
theorem kw_4_15 : Cond.code yJ1_charAt_3b067 cJ1_charAt_3b067 2 (some .char) ∈ wsL_law := kr_4 _ (List.mem_of_getElem? (i := 15) rfl)
theorem kw_4_16 : Cond.methodLink RJ1 9 yJ0_checkIndex_df160 ∈ wsL_law := kr_4 _ (List.mem_of_getElem? (i := 16) rfl)
theorem kw_4_17 : Cond.static yJ0_checkIndex_df160 ∈ wsL_law := kr_4 _ (List.mem_of_getElem? (i := 17) rfl)
theorem kw_4_18 : Cond.code yJ0_checkIndex_df160 cJ0_checkIndex_df160 2 none ∈ wsL_law := kr_4 _ (List.mem_of_getElem? (i := 18) rfl)
theorem kw_4_19 : Cond.fieldLink RJ0 1053 "jdk/internal/util/Preconditions" "SIOOBE_FORMATTER" "Ljava/util/function/BiFunction;" ∈ wsL_law := kr_4 _ (List.mem_of_getElem? (i := 19) rfl)
theorem kw_4_20 : Cond.methodLink RJ0 1059 yJ3_checkIndex_8e157 ∈ wsL_law := kr_4 _ (List.mem_of_getElem? (i := 20) rfl)
theorem kw_4_21 : Cond.static yJ3_checkIndex_8e157 ∈ wsL_law := kr_4 _ (List.mem_of_getElem? (i := 21) rfl)
theorem kw_4_22 : Cond.initialized RJ3 ∈ wsL_law := kr_4 _ (List.mem_of_getElem? (i := 22) rfl)
theorem kw_4_23 : Cond.code yJ3_checkIndex_8e157 cJ3_checkIndex_8e157 3 (some .int) ∈ wsL_law := kr_4 _ (List.mem_of_getElem? (i := 23) rfl)
theorem kw_5_0 : Cond.methodLink RJ0 498 yJ2_charAt_3b067 ∈ wsL_law := kr_5 _ (List.mem_of_getElem? (i := 0) rfl)
theorem kw_5_1 : Cond.static yJ2_charAt_3b067 ∈ wsL_law := kr_5 _ (List.mem_of_getElem? (i := 1) rfl)
theorem kw_5_2 : Cond.initialized RJ2 ∈ wsL_law := kr_5 _ (List.mem_of_getElem? (i := 2) rfl)
theorem kw_5_3 : Cond.code yJ2_charAt_3b067 cJ2_charAt_3b067 2 (some .char) ∈ wsL_law := kr_5 _ (List.mem_of_getElem? (i := 3) rfl)
theorem kw_5_4 : Cond.methodLink RJ2 67 yJ2_checkIndex_2214a ∈ wsL_law := kr_5 _ (List.mem_of_getElem? (i := 4) rfl)
theorem kw_5_5 : Cond.static yJ2_checkIndex_2214a ∈ wsL_law := kr_5 _ (List.mem_of_getElem? (i := 5) rfl)
theorem kw_5_6 : Cond.code yJ2_checkIndex_2214a cJ2_checkIndex_2214a 2 none ∈ wsL_law := kr_5 _ (List.mem_of_getElem? (i := 6) rfl)
theorem kw_5_7 : Cond.methodLink RJ2 48 yJ2_length_9d52b ∈ wsL_law := kr_5 _ (List.mem_of_getElem? (i := 7) rfl)
theorem kw_5_8 : Cond.static yJ2_length_9d52b ∈ wsL_law := kr_5 _ (List.mem_of_getElem? (i := 8) rfl)
theorem kw_5_9 : Cond.code yJ2_length_9d52b cJ2_length_9d52b 1 (some .int) ∈ wsL_law := kr_5 _ (List.mem_of_getElem? (i := 9) rfl)
theorem kw_5_10 : Cond.methodLink RJ2 414 yJ0_checkIndex_df160 ∈ wsL_law := kr_5 _ (List.mem_of_getElem? (i := 10) rfl)
theorem kw_5_11 : Cond.methodLink RJ2 71 yJ2_getChar_3b067 ∈ wsL_law := kr_5 _ (List.mem_of_getElem? (i := 11) rfl)
theorem kw_5_12 : Cond.static yJ2_getChar_3b067 ∈ wsL_law := kr_5 _ (List.mem_of_getElem? (i := 12) rfl)
theorem kw_5_13 : Cond.code yJ2_getChar_3b067 cJ2_getChar_3b067 2 (some .char) ∈ wsL_law := kr_5 _ (List.mem_of_getElem? (i := 13) rfl)
theorem kw_5_17 : Cond.methodLink RX6 51 yX4_put ∈ wsL_law := kr_5 _ (List.mem_of_getElem? (i := 17) rfl)
theorem kw_5_18 : Cond.instanceMethod yX4_put ∈ wsL_law := kr_5 _ (List.mem_of_getElem? (i := 18) rfl)
theorem kw_5_19 : Cond.selects RX4 yX4_put yX4_put ∈ wsL_law := kr_5 _ (List.mem_of_getElem? (i := 19) rfl)
theorem kw_5_20 : Cond.code yX4_put cX4_put 2 (some .boolean) ∈ wsL_law := kr_5 _ (List.mem_of_getElem? (i := 20) rfl)
theorem kw_5_21 : Cond.fieldLink RX4 24 "StreetTillTen$Tape" "size" "I" ∈ wsL_law := kr_5 _ (List.mem_of_getElem? (i := 21) rfl)
theorem kw_5_22 : Cond.methodLink RX6 57 yX1_init ∈ wsL_law := kr_5 _ (List.mem_of_getElem? (i := 22) rfl)
theorem kw_5_23 : Cond.instanceMethod yX1_init ∈ wsL_law := kr_5 _ (List.mem_of_getElem? (i := 23) rfl)
theorem kw_6_0 : Cond.code yX1_init cX1_init 3 none ∈ wsL_law := kr_6 _ (List.mem_of_getElem? (i := 0) rfl)
theorem kw_6_1 : Cond.methodLink RX1 3 objectInit ∈ wsL_law := kr_6 _ (List.mem_of_getElem? (i := 1) rfl)
theorem kw_6_2 : Cond.fieldLink RX1 9 "StreetTillTen$Reader" "tape" "LStreetTillTen$Tape;" ∈ wsL_law := kr_6 _ (List.mem_of_getElem? (i := 2) rfl)
theorem kw_6_3 : Cond.fieldLink RX1 15 "StreetTillTen$Reader" "text" "LStreetTillTen$Text;" ∈ wsL_law := kr_6 _ (List.mem_of_getElem? (i := 3) rfl)
theorem kw_6_4 : Cond.methodLink RX6 64 yX1_readInto ∈ wsL_law := kr_6 _ (List.mem_of_getElem? (i := 4) rfl)
theorem kw_6_5 : Cond.instanceMethod yX1_readInto ∈ wsL_law := kr_6 _ (List.mem_of_getElem? (i := 5) rfl)
theorem kw_6_6 : Cond.selects RX1 yX1_readInto yX1_readInto ∈ wsL_law := kr_6 _ (List.mem_of_getElem? (i := 6) rfl)
theorem kw_6_7 : Cond.code yX1_readInto cX1_readInto 2 (some .int) ∈ wsL_law := kr_6 _ (List.mem_of_getElem? (i := 7) rfl)
theorem kw_6_8 : Cond.fieldLink RX1 29 "StreetTillTen$Reader" "at" "I" ∈ wsL_law := kr_6 _ (List.mem_of_getElem? (i := 8) rfl)
theorem kw_6_9 : Cond.fieldLink RX1 33 "StreetTillTen$Tape" "tokens" "[I" ∈ wsL_law := kr_6 _ (List.mem_of_getElem? (i := 9) rfl)
theorem kw_6_10 : Cond.fieldLink RX1 37 "StreetTillTen$Reader" "token" "I" ∈ wsL_law := kr_6 _ (List.mem_of_getElem? (i := 10) rfl)
theorem kw_6_11 : Cond.fieldLink RX1 40 "StreetTillTen$Reader" "fault" "I" ∈ wsL_law := kr_6 _ (List.mem_of_getElem? (i := 11) rfl)
theorem kw_6_12 : Cond.methodLink RX1 19 yX5_clear ∈ wsL_law := kr_6 _ (List.mem_of_getElem? (i := 12) rfl)
theorem kw_6_13 : Cond.instanceMethod yX5_clear ∈ wsL_law := kr_6 _ (List.mem_of_getElem? (i := 13) rfl)
theorem kw_6_14 : Cond.selects RX5 yX5_clear yX5_clear ∈ wsL_law := kr_6 _ (List.mem_of_getElem? (i := 14) rfl)
theorem kw_6_15 : Cond.code yX5_clear cX5_clear 1 none ∈ wsL_law := kr_6 _ (List.mem_of_getElem? (i := 15) rfl)
theorem kw_6_16 : Cond.fieldLink RX5 25 "StreetTillTen$Text" "size" "I" ∈ wsL_law := kr_6 _ (List.mem_of_getElem? (i := 16) rfl)
theorem kw_6_17 : Cond.methodLink RX1 24 yX4_cut ∈ wsL_law := kr_6 _ (List.mem_of_getElem? (i := 17) rfl)
theorem kw_6_18 : Cond.instanceMethod yX4_cut ∈ wsL_law := kr_6 _ (List.mem_of_getElem? (i := 18) rfl)
theorem kw_6_19 : Cond.selects RX4 yX4_cut yX4_cut ∈ wsL_law := kr_6 _ (List.mem_of_getElem? (i := 19) rfl)
theorem kw_6_20 : Cond.code yX4_cut cX4_cut 2 none ∈ wsL_law := kr_6 _ (List.mem_of_getElem? (i := 20) rfl)
theorem kw_6_21 : Cond.fieldLink RX4 28 "StreetTillTen$Tape" "at" "I" ∈ wsL_law := kr_6 _ (List.mem_of_getElem? (i := 21) rfl)
theorem kw_6_22 : Cond.methodLink RX4 31 yX4_isBlank ∈ wsL_law := kr_6 _ (List.mem_of_getElem? (i := 22) rfl)
theorem kw_6_23 : Cond.static yX4_isBlank ∈ wsL_law := kr_6 _ (List.mem_of_getElem? (i := 23) rfl)
theorem kw_7_0 : Cond.code yX4_isBlank cX4_isBlank 1 (some .boolean) ∈ wsL_law := kr_7 _ (List.mem_of_getElem? (i := 0) rfl)
theorem kw_7_1 : Cond.methodLink RX4 35 yX4_isDigit ∈ wsL_law := kr_7 _ (List.mem_of_getElem? (i := 1) rfl)
theorem kw_7_2 : Cond.static yX4_isDigit ∈ wsL_law := kr_7 _ (List.mem_of_getElem? (i := 2) rfl)
theorem kw_7_3 : Cond.code yX4_isDigit cX4_isDigit 1 (some .boolean) ∈ wsL_law := kr_7 _ (List.mem_of_getElem? (i := 3) rfl)
theorem kw_7_4 : Cond.methodLink RX4 38 yX4_cutNumber ∈ wsL_law := kr_7 _ (List.mem_of_getElem? (i := 4) rfl)
theorem kw_7_5 : Cond.instanceMethod yX4_cutNumber ∈ wsL_law := kr_7 _ (List.mem_of_getElem? (i := 5) rfl)
theorem kw_7_6 : Cond.selects RX4 yX4_cutNumber yX4_cutNumber ∈ wsL_law := kr_7 _ (List.mem_of_getElem? (i := 6) rfl)
theorem kw_7_7 : Cond.code yX4_cutNumber cX4_cutNumber 3 none ∈ wsL_law := kr_7 _ (List.mem_of_getElem? (i := 7) rfl)
theorem kw_7_8 : Cond.methodLink RX4 42 yX4_isSmall ∈ wsL_law := kr_7 _ (List.mem_of_getElem? (i := 8) rfl)
theorem kw_7_9 : Cond.static yX4_isSmall ∈ wsL_law := kr_7 _ (List.mem_of_getElem? (i := 9) rfl)
theorem kw_7_10 : Cond.code yX4_isSmall cX4_isSmall 1 (some .boolean) ∈ wsL_law := kr_7 _ (List.mem_of_getElem? (i := 10) rfl)
theorem kw_7_11 : Cond.methodLink RX4 45 yX4_cutWord ∈ wsL_law := kr_7 _ (List.mem_of_getElem? (i := 11) rfl)
theorem kw_7_12 : Cond.instanceMethod yX4_cutWord ∈ wsL_law := kr_7 _ (List.mem_of_getElem? (i := 12) rfl)
theorem kw_7_13 : Cond.selects RX4 yX4_cutWord yX4_cutWord ∈ wsL_law := kr_7 _ (List.mem_of_getElem? (i := 13) rfl)
theorem kw_7_14 : Cond.code yX4_cutWord cX4_cutWord 3 none ∈ wsL_law := kr_7 _ (List.mem_of_getElem? (i := 14) rfl)
theorem kw_7_15 : Cond.methodLink RX4 48 yX4_nameFrom ∈ wsL_law := kr_7 _ (List.mem_of_getElem? (i := 15) rfl)
theorem kw_7_16 : Cond.instanceMethod yX4_nameFrom ∈ wsL_law := kr_7 _ (List.mem_of_getElem? (i := 16) rfl)
theorem kw_7_17 : Cond.selects RX4 yX4_nameFrom yX4_nameFrom ∈ wsL_law := kr_7 _ (List.mem_of_getElem? (i := 17) rfl)
theorem kw_7_18 : Cond.code yX4_nameFrom cX4_nameFrom 2 (some .int) ∈ wsL_law := kr_7 _ (List.mem_of_getElem? (i := 18) rfl)
theorem kw_7_19 : Cond.methodLink RX4 59 yX4_reads ∈ wsL_law := kr_7 _ (List.mem_of_getElem? (i := 19) rfl)
theorem kw_7_20 : Cond.instanceMethod yX4_reads ∈ wsL_law := kr_7 _ (List.mem_of_getElem? (i := 20) rfl)
theorem kw_7_21 : Cond.selects RX4 yX4_reads yX4_reads ∈ wsL_law := kr_7 _ (List.mem_of_getElem? (i := 21) rfl)
theorem kw_7_22 : Cond.code yX4_reads cX4_reads 4 (some .boolean) ∈ wsL_law := kr_7 _ (List.mem_of_getElem? (i := 22) rfl)
theorem kw_7_23 : Cond.methodLink RX4 85 yJ0_length_8abf5 ∈ wsL_law := kr_7 _ (List.mem_of_getElem? (i := 23) rfl)
theorem kw_8_0 : Cond.methodLink RX4 91 yJ0_charAt_5068e ∈ wsL_law := kr_8 _ (List.mem_of_getElem? (i := 0) rfl)
theorem kw_8_1 : Cond.methodLink RX4 52 yX4_keyFrom ∈ wsL_law := kr_8 _ (List.mem_of_getElem? (i := 1) rfl)
theorem kw_8_2 : Cond.instanceMethod yX4_keyFrom ∈ wsL_law := kr_8 _ (List.mem_of_getElem? (i := 2) rfl)
theorem kw_8_3 : Cond.selects RX4 yX4_keyFrom yX4_keyFrom ∈ wsL_law := kr_8 _ (List.mem_of_getElem? (i := 3) rfl)
theorem kw_8_4 : Cond.code yX4_keyFrom cX4_keyFrom 2 (some .int) ∈ wsL_law := kr_8 _ (List.mem_of_getElem? (i := 4) rfl)
theorem kw_8_5 : Cond.methodLink RX1 43 yX1_readPart ∈ wsL_law := kr_8 _ (List.mem_of_getElem? (i := 5) rfl)
theorem kw_8_6 : Cond.instanceMethod yX1_readPart ∈ wsL_law := kr_8 _ (List.mem_of_getElem? (i := 6) rfl)
theorem kw_8_7 : Cond.selects RX1 yX1_readPart yX1_readPart ∈ wsL_law := kr_8 _ (List.mem_of_getElem? (i := 7) rfl)
theorem kw_8_8 : Cond.code yX1_readPart cX1_readPart 3 none ∈ wsL_law := kr_8 _ (List.mem_of_getElem? (i := 8) rfl)
theorem kw_8_9 : Cond.methodLink RX1 50 yX1_expect ∈ wsL_law := kr_8 _ (List.mem_of_getElem? (i := 9) rfl)
theorem kw_8_10 : Cond.instanceMethod yX1_expect ∈ wsL_law := kr_8 _ (List.mem_of_getElem? (i := 10) rfl)
theorem kw_8_11 : Cond.selects RX1 yX1_expect yX1_expect ∈ wsL_law := kr_8 _ (List.mem_of_getElem? (i := 11) rfl)
theorem kw_8_12 : Cond.code yX1_expect cX1_expect 2 none ∈ wsL_law := kr_8 _ (List.mem_of_getElem? (i := 12) rfl)
theorem kw_8_13 : Cond.methodLink RX1 77 yX1_next ∈ wsL_law := kr_8 _ (List.mem_of_getElem? (i := 13) rfl)
theorem kw_8_14 : Cond.instanceMethod yX1_next ∈ wsL_law := kr_8 _ (List.mem_of_getElem? (i := 14) rfl)
theorem kw_8_15 : Cond.selects RX1 yX1_next yX1_next ∈ wsL_law := kr_8 _ (List.mem_of_getElem? (i := 15) rfl)
theorem kw_8_16 : Cond.code yX1_next cX1_next 1 none ∈ wsL_law := kr_8 _ (List.mem_of_getElem? (i := 16) rfl)
theorem kw_8_17 : Cond.methodLink RX1 47 yX1_fail ∈ wsL_law := kr_8 _ (List.mem_of_getElem? (i := 17) rfl)
theorem kw_8_18 : Cond.instanceMethod yX1_fail ∈ wsL_law := kr_8 _ (List.mem_of_getElem? (i := 18) rfl)
theorem kw_8_19 : Cond.selects RX1 yX1_fail yX1_fail ∈ wsL_law := kr_8 _ (List.mem_of_getElem? (i := 19) rfl)
theorem kw_8_20 : Cond.code yX1_fail cX1_fail 1 none ∈ wsL_law := kr_8 _ (List.mem_of_getElem? (i := 20) rfl)
theorem kw_8_21 : Cond.fieldLink RX1 83 "StreetTillTen$Tape" "starts" "[I" ∈ wsL_law := kr_8 _ (List.mem_of_getElem? (i := 21) rfl)
theorem kw_8_22 : Cond.methodLink RX1 54 yX1_read ∈ wsL_law := kr_8 _ (List.mem_of_getElem? (i := 22) rfl)
theorem kw_8_23 : Cond.instanceMethod yX1_read ∈ wsL_law := kr_8 _ (List.mem_of_getElem? (i := 23) rfl)
theorem kw_9_0 : Cond.selects RX1 yX1_read yX1_read ∈ wsL_law := kr_9 _ (List.mem_of_getElem? (i := 0) rfl)
theorem kw_9_1 : Cond.code yX1_read cX1_read 6 none ∈ wsL_law := kr_9 _ (List.mem_of_getElem? (i := 1) rfl)
theorem kw_9_2 : Cond.methodLink RX1 60 yX1_readOne ∈ wsL_law := kr_9 _ (List.mem_of_getElem? (i := 2) rfl)
theorem kw_9_3 : Cond.instanceMethod yX1_readOne ∈ wsL_law := kr_9 _ (List.mem_of_getElem? (i := 3) rfl)
theorem kw_9_4 : Cond.selects RX1 yX1_readOne yX1_readOne ∈ wsL_law := kr_9 _ (List.mem_of_getElem? (i := 4) rfl)
theorem kw_9_5 : Cond.methodLink RX1 63 yX1_opens ∈ wsL_law := kr_9 _ (List.mem_of_getElem? (i := 5) rfl)
theorem kw_9_6 : Cond.instanceMethod yX1_opens ∈ wsL_law := kr_9 _ (List.mem_of_getElem? (i := 6) rfl)
theorem kw_9_7 : Cond.selects RX1 yX1_opens yX1_opens ∈ wsL_law := kr_9 _ (List.mem_of_getElem? (i := 7) rfl)
theorem kw_9_8 : Cond.code yX1_opens cX1_opens 2 (some .boolean) ∈ wsL_law := kr_9 _ (List.mem_of_getElem? (i := 8) rfl)
theorem kw_9_9 : Cond.methodLink RX1 67 yX5_write ∈ wsL_law := kr_9 _ (List.mem_of_getElem? (i := 9) rfl)
theorem kw_9_10 : Cond.instanceMethod yX5_write ∈ wsL_law := kr_9 _ (List.mem_of_getElem? (i := 10) rfl)
theorem kw_9_11 : Cond.selects RX5 yX5_write yX5_write ∈ wsL_law := kr_9 _ (List.mem_of_getElem? (i := 11) rfl)
theorem kw_9_12 : Cond.code yX5_write cX5_write 2 none ∈ wsL_law := kr_9 _ (List.mem_of_getElem? (i := 12) rfl)
theorem kw_9_13 : Cond.methodLink RX1 70 yX1_levelOf ∈ wsL_law := kr_9 _ (List.mem_of_getElem? (i := 13) rfl)
theorem kw_9_14 : Cond.static yX1_levelOf ∈ wsL_law := kr_9 _ (List.mem_of_getElem? (i := 14) rfl)
theorem kw_9_15 : Cond.code yX1_levelOf cX1_levelOf 1 (some .int) ∈ wsL_law := kr_9 _ (List.mem_of_getElem? (i := 15) rfl)
theorem kw_9_16 : Cond.methodLink RX1 74 yX1_operationOf ∈ wsL_law := kr_9 _ (List.mem_of_getElem? (i := 16) rfl)
theorem kw_9_17 : Cond.static yX1_operationOf ∈ wsL_law := kr_9 _ (List.mem_of_getElem? (i := 17) rfl)
theorem kw_9_18 : Cond.code yX1_operationOf cX1_operationOf 1 (some .int) ∈ wsL_law := kr_9 _ (List.mem_of_getElem? (i := 18) rfl)
theorem kw_9_19 : Cond.code yX1_readOne cX1_readOne 2 none ∈ wsL_law := kr_9 _ (List.mem_of_getElem? (i := 19) rfl)
theorem kw_9_20 : Cond.fieldLink RX1 80 "StreetTillTen$Tape" "steps" "[I" ∈ wsL_law := kr_9 _ (List.mem_of_getElem? (i := 20) rfl)
theorem kw_9_21 : Cond.methodLink RX1 57 yX5_endPart ∈ wsL_law := kr_9 _ (List.mem_of_getElem? (i := 21) rfl)
theorem kw_9_22 : Cond.instanceMethod yX5_endPart ∈ wsL_law := kr_9 _ (List.mem_of_getElem? (i := 22) rfl)
theorem kw_9_23 : Cond.selects RX5 yX5_endPart yX5_endPart ∈ wsL_law := kr_9 _ (List.mem_of_getElem? (i := 23) rfl)
theorem kw_10_0 : Cond.code yX5_endPart cX5_endPart 2 none ∈ wsL_law := kr_10 _ (List.mem_of_getElem? (i := 0) rfl)
theorem kw_10_1 : Cond.methodLink RX6 68 yX4_empty ∈ wsL_law := kr_10 _ (List.mem_of_getElem? (i := 1) rfl)
theorem kw_10_2 : Cond.instanceMethod yX4_empty ∈ wsL_law := kr_10 _ (List.mem_of_getElem? (i := 2) rfl)
theorem kw_10_3 : Cond.selects RX4 yX4_empty yX4_empty ∈ wsL_law := kr_10 _ (List.mem_of_getElem? (i := 3) rfl)
theorem kw_10_4 : Cond.code yX4_empty cX4_empty 1 none ∈ wsL_law := kr_10 _ (List.mem_of_getElem? (i := 4) rfl)
theorem kw_10_5 : Cond.methodLink RX6 77 yX3_init ∈ wsL_law := kr_10 _ (List.mem_of_getElem? (i := 5) rfl)
theorem kw_10_6 : Cond.instanceMethod yX3_init ∈ wsL_law := kr_10 _ (List.mem_of_getElem? (i := 6) rfl)
theorem kw_10_7 : Cond.code yX3_init cX3_init 2 none ∈ wsL_law := kr_10 _ (List.mem_of_getElem? (i := 7) rfl)
theorem kw_10_8 : Cond.methodLink RX3 3 objectInit ∈ wsL_law := kr_10 _ (List.mem_of_getElem? (i := 8) rfl)
theorem kw_10_9 : Cond.fieldLink RX3 9 "StreetTillTen$Street" "limit" "I" ∈ wsL_law := kr_10 _ (List.mem_of_getElem? (i := 9) rfl)
theorem kw_10_10 : Cond.fieldLink RX3 15 "StreetTillTen$Street" "kind" "[I" ∈ wsL_law := kr_10 _ (List.mem_of_getElem? (i := 10) rfl)
theorem kw_10_11 : Cond.fieldLink RX3 19 "StreetTillTen$Street" "number" "[I" ∈ wsL_law := kr_10 _ (List.mem_of_getElem? (i := 11) rfl)
theorem kw_10_12 : Cond.fieldLink RX3 22 "StreetTillTen$Street" "table" "[I" ∈ wsL_law := kr_10 _ (List.mem_of_getElem? (i := 12) rfl)
theorem kw_10_13 : Cond.classLink RX3 25 "[[I" ∈ wsL_law := kr_10 _ (List.mem_of_getElem? (i := 13) rfl)
theorem kw_10_14 : Cond.fieldLink RX3 27 "StreetTillTen$Street" "strength" "[[I" ∈ wsL_law := kr_10 _ (List.mem_of_getElem? (i := 14) rfl)
theorem kw_10_15 : Cond.fieldLink RX3 32 "StreetTillTen$Street" "names" "[I" ∈ wsL_law := kr_10 _ (List.mem_of_getElem? (i := 15) rfl)
theorem kw_10_16 : Cond.fieldLink RX3 35 "StreetTillTen$Street" "rule" "LStreetTillTen$Text;" ∈ wsL_law := kr_10 _ (List.mem_of_getElem? (i := 16) rfl)
theorem kw_10_18 : Cond.instanceMethod yX7_init ∈ wsL_law := kr_10 _ (List.mem_of_getElem? (i := 18) rfl)
theorem kw_10_19 : Cond.code yX7_init cX7_init 1 none ∈ wsL_law := kr_10 _ (List.mem_of_getElem? (i := 19) rfl)
theorem kw_10_20 : Cond.methodLink RX7 7 objectInit ∈ wsL_law := kr_10 _ (List.mem_of_getElem? (i := 20) rfl)
theorem kw_10_21 : Cond.fieldLink RX7 13 "StreetTillTenModel" "texts" "[I" ∈ wsL_law := kr_10 _ (List.mem_of_getElem? (i := 21) rfl)
theorem kw_10_22 : Cond.fieldLink RX7 17 "StreetTillTenModel" "textSize" "[I" ∈ wsL_law := kr_10 _ (List.mem_of_getElem? (i := 22) rfl)
theorem kw_10_23 : Cond.fieldLink RX7 20 "StreetTillTenModel" "tape" "[I" ∈ wsL_law := kr_10 _ (List.mem_of_getElem? (i := 23) rfl)
theorem kw_11_0 : Cond.fieldLink RX7 23 "StreetTillTenModel" "limit" "I" ∈ wsL_law := kr_11 _ (List.mem_of_getElem? (i := 0) rfl)
theorem kw_11_1 : Cond.fieldLink RX7 26 "StreetTillTenModel" "kinds" "[I" ∈ wsL_law := kr_11 _ (List.mem_of_getElem? (i := 1) rfl)
theorem kw_11_2 : Cond.fieldLink RX7 29 "StreetTillTenModel" "numbers" "[I" ∈ wsL_law := kr_11 _ (List.mem_of_getElem? (i := 2) rfl)
theorem kw_11_3 : Cond.fieldLink RX7 32 "StreetTillTenModel" "tables" "[I" ∈ wsL_law := kr_11 _ (List.mem_of_getElem? (i := 3) rfl)
theorem kw_11_4 : Cond.fieldLink RX7 35 "StreetTillTenModel" "strengths" "[I" ∈ wsL_law := kr_11 _ (List.mem_of_getElem? (i := 4) rfl)
theorem kw_11_5 : Cond.fieldLink RX7 38 "StreetTillTenModel" "extraA" "I" ∈ wsL_law := kr_11 _ (List.mem_of_getElem? (i := 5) rfl)
theorem kw_11_6 : Cond.fieldLink RX7 41 "StreetTillTenModel" "extraB" "I" ∈ wsL_law := kr_11 _ (List.mem_of_getElem? (i := 6) rfl)
theorem kw_11_7 : Cond.fieldLink RX7 44 "StreetTillTenModel" "gone" "I" ∈ wsL_law := kr_11 _ (List.mem_of_getElem? (i := 7) rfl)
theorem kw_11_8 : Cond.fieldLink RX7 47 "StreetTillTenModel" "ways" "[I" ∈ wsL_law := kr_11 _ (List.mem_of_getElem? (i := 8) rfl)
theorem kw_11_9 : Cond.fieldLink RX7 50 "StreetTillTenModel" "strengthsWas" "[I" ∈ wsL_law := kr_11 _ (List.mem_of_getElem? (i := 9) rfl)
theorem kw_11_10 : Cond.fieldLink RX7 53 "StreetTillTenModel" "tablesWas" "[I" ∈ wsL_law := kr_11 _ (List.mem_of_getElem? (i := 10) rfl)
theorem kw_11_11 : Cond.fieldLink RX7 56 "StreetTillTenModel" "numbersKept" "[I" ∈ wsL_law := kr_11 _ (List.mem_of_getElem? (i := 11) rfl)
theorem kw_11_12 : Cond.fieldLink RX7 59 "StreetTillTenModel" "tablesKept" "[I" ∈ wsL_law := kr_11 _ (List.mem_of_getElem? (i := 12) rfl)
theorem kw_11_13 : Cond.fieldLink RX7 62 "StreetTillTenModel" "strengthsKept" "[I" ∈ wsL_law := kr_11 _ (List.mem_of_getElem? (i := 13) rfl)
theorem kw_11_14 : Cond.fieldLink RX7 65 "StreetTillTenModel" "manyKept" "I" ∈ wsL_law := kr_11 _ (List.mem_of_getElem? (i := 14) rfl)
theorem kw_11_15 : Cond.arrayClass .boolean ∈ wsL_law := kr_11 _ (List.mem_of_getElem? (i := 15) rfl)
theorem kw_11_16 : Cond.fieldLink RX7 68 "StreetTillTenModel" "isThere" "[Z" ∈ wsL_law := kr_11 _ (List.mem_of_getElem? (i := 16) rfl)
theorem kw_11_17 : Cond.fieldLink RX7 72 "StreetTillTenModel" "sorts" "[I" ∈ wsL_law := kr_11 _ (List.mem_of_getElem? (i := 17) rfl)
theorem kw_11_18 : Cond.fieldLink RX7 75 "StreetTillTenModel" "sheetSize" "[I" ∈ wsL_law := kr_11 _ (List.mem_of_getElem? (i := 18) rfl)
theorem kw_11_19 : Cond.fieldLink RX7 78 "StreetTillTenModel" "items" "[I" ∈ wsL_law := kr_11 _ (List.mem_of_getElem? (i := 19) rfl)
theorem kw_11_20 : Cond.fieldLink RX7 85 "StreetTillTenModel" "textCount" "I" ∈ wsL_law := kr_11 _ (List.mem_of_getElem? (i := 20) rfl)
theorem kw_11_21 : Cond.methodLink RX7 81 yX7_spell ∈ wsL_law := kr_11 _ (List.mem_of_getElem? (i := 21) rfl)
theorem kw_11_22 : Cond.instanceMethod yX7_spell ∈ wsL_law := kr_11 _ (List.mem_of_getElem? (i := 22) rfl)
theorem kw_11_23 : Cond.selects RX7 yX7_spell yX7_spell ∈ wsL_law := kr_11 _ (List.mem_of_getElem? (i := 23) rfl)
theorem kw_12_0 : Cond.code yX7_spell cX7_spell 10 none ∈ wsL_law := kr_12 _ (List.mem_of_getElem? (i := 0) rfl)
theorem kw_12_2 : Cond.instanceMethod yX6_set ∈ wsL_law := kr_12 _ (List.mem_of_getElem? (i := 2) rfl)
theorem kw_12_3 : Cond.selects RX6 yX6_set yX6_set ∈ wsL_law := kr_12 _ (List.mem_of_getElem? (i := 3) rfl)
theorem kw_12_4 : Cond.code yX6_set cX6_set 5 (some .int) ∈ wsL_law := kr_12 _ (List.mem_of_getElem? (i := 4) rfl)
theorem kw_12_5 : Cond.fieldLink RX6 93 "StreetTillTen" "LEAST_SETTING" "[I" ∈ wsL_law := kr_12 _ (List.mem_of_getElem? (i := 5) rfl)
theorem kw_12_6 : Cond.fieldLink RX6 97 "StreetTillTen" "MOST_SETTING" "[I" ∈ wsL_law := kr_12 _ (List.mem_of_getElem? (i := 6) rfl)
theorem kw_12_7 : Cond.fieldLink RX6 104 "StreetTillTen$Street" "year" "I" ∈ wsL_law := kr_12 _ (List.mem_of_getElem? (i := 7) rfl)
theorem kw_12_8 : Cond.fieldLink RX6 107 "StreetTillTen$Street" "limit" "I" ∈ wsL_law := kr_12 _ (List.mem_of_getElem? (i := 8) rfl)
theorem kw_12_9 : Cond.fieldLink RX6 110 "StreetTillTen$Street" "number" "[I" ∈ wsL_law := kr_12 _ (List.mem_of_getElem? (i := 9) rfl)
theorem kw_12_10 : Cond.fieldLink RX6 113 "StreetTillTen$Street" "table" "[I" ∈ wsL_law := kr_12 _ (List.mem_of_getElem? (i := 10) rfl)
theorem kw_12_11 : Cond.methodLink RX6 90 yX6_isHouse ∈ wsL_law := kr_12 _ (List.mem_of_getElem? (i := 11) rfl)
theorem kw_12_12 : Cond.instanceMethod yX6_isHouse ∈ wsL_law := kr_12 _ (List.mem_of_getElem? (i := 12) rfl)
theorem kw_12_13 : Cond.selects RX6 yX6_isHouse yX6_isHouse ∈ wsL_law := kr_12 _ (List.mem_of_getElem? (i := 13) rfl)
theorem kw_12_14 : Cond.code yX6_isHouse cX6_isHouse 2 (some .boolean) ∈ wsL_law := kr_12 _ (List.mem_of_getElem? (i := 14) rfl)
theorem kw_12_15 : Cond.fieldLink RX6 195 "StreetTillTen$Street" "count" "I" ∈ wsL_law := kr_12 _ (List.mem_of_getElem? (i := 15) rfl)
theorem kw_12_16 : Cond.methodLink RX6 100 yX6_setting ∈ wsL_law := kr_12 _ (List.mem_of_getElem? (i := 16) rfl)
theorem kw_12_17 : Cond.instanceMethod yX6_setting ∈ wsL_law := kr_12 _ (List.mem_of_getElem? (i := 17) rfl)
theorem kw_12_18 : Cond.selects RX6 yX6_setting yX6_setting ∈ wsL_law := kr_12 _ (List.mem_of_getElem? (i := 18) rfl)
theorem kw_12_19 : Cond.code yX6_setting cX6_setting 3 (some .int) ∈ wsL_law := kr_12 _ (List.mem_of_getElem? (i := 19) rfl)
theorem kw_12_21 : Cond.instanceMethod yX7_set ∈ wsL_law := kr_12 _ (List.mem_of_getElem? (i := 21) rfl)
theorem kw_12_22 : Cond.selects RX7 yX7_set yX7_set ∈ wsL_law := kr_12 _ (List.mem_of_getElem? (i := 22) rfl)
theorem kw_12_23 : Cond.code yX7_set cX7_set 5 (some .int) ∈ wsL_law := kr_12 _ (List.mem_of_getElem? (i := 23) rfl)
theorem kw_13_0 : Cond.constantLong RX7 97 (3) ∈ wsL_law := kr_13 _ (List.mem_of_getElem? (i := 0) rfl)
theorem kw_13_1 : Cond.methodLink RX7 91 yX7_in ∈ wsL_law := kr_13 _ (List.mem_of_getElem? (i := 1) rfl)
theorem kw_13_2 : Cond.static yX7_in ∈ wsL_law := kr_13 _ (List.mem_of_getElem? (i := 2) rfl)
theorem kw_13_3 : Cond.code yX7_in cX7_in 6 (some .boolean) ∈ wsL_law := kr_13 _ (List.mem_of_getElem? (i := 3) rfl)
theorem kw_13_4 : Cond.methodLink RX7 105 yX7_isHouse ∈ wsL_law := kr_13 _ (List.mem_of_getElem? (i := 4) rfl)
theorem kw_13_5 : Cond.instanceMethod yX7_isHouse ∈ wsL_law := kr_13 _ (List.mem_of_getElem? (i := 5) rfl)
theorem kw_13_6 : Cond.selects RX7 yX7_isHouse yX7_isHouse ∈ wsL_law := kr_13 _ (List.mem_of_getElem? (i := 6) rfl)
theorem kw_13_7 : Cond.code yX7_isHouse cX7_isHouse 2 (some .boolean) ∈ wsL_law := kr_13 _ (List.mem_of_getElem? (i := 7) rfl)
theorem kw_13_8 : Cond.fieldLink RX7 88 "StreetTillTenModel" "many" "I" ∈ wsL_law := kr_13 _ (List.mem_of_getElem? (i := 8) rfl)
theorem kw_13_9 : Cond.methodLink RX7 109 yX7_isValue ∈ wsL_law := kr_13 _ (List.mem_of_getElem? (i := 9) rfl)
theorem kw_13_10 : Cond.static yX7_isValue ∈ wsL_law := kr_13 _ (List.mem_of_getElem? (i := 10) rfl)
theorem kw_13_11 : Cond.code yX7_isValue cX7_isValue 2 (some .boolean) ∈ wsL_law := kr_13 _ (List.mem_of_getElem? (i := 11) rfl)
theorem kw_13_12 : Cond.constantLong RX7 95 (-1) ∈ wsL_law := kr_13 _ (List.mem_of_getElem? (i := 12) rfl)
theorem kw_13_13 : Cond.constantLong RX7 99 (999) ∈ wsL_law := kr_13 _ (List.mem_of_getElem? (i := 13) rfl)
theorem kw_13_14 : Cond.constantLong RX7 101 (99) ∈ wsL_law := kr_13 _ (List.mem_of_getElem? (i := 14) rfl)
theorem kw_13_15 : Cond.constantLong RX7 103 (9) ∈ wsL_law := kr_13 _ (List.mem_of_getElem? (i := 15) rfl)
theorem kw_13_16 : Cond.methodLink RX7 113 yX7_told ∈ wsL_law := kr_13 _ (List.mem_of_getElem? (i := 16) rfl)
theorem kw_13_17 : Cond.instanceMethod yX7_told ∈ wsL_law := kr_13 _ (List.mem_of_getElem? (i := 17) rfl)
theorem kw_13_18 : Cond.selects RX7 yX7_told yX7_told ∈ wsL_law := kr_13 _ (List.mem_of_getElem? (i := 18) rfl)
theorem kw_13_19 : Cond.code yX7_told cX7_told 6 (some .int) ∈ wsL_law := kr_13 _ (List.mem_of_getElem? (i := 19) rfl)
theorem kw_13_20 : Cond.constantLong RX7 142 (10) ∈ wsL_law := kr_13 _ (List.mem_of_getElem? (i := 20) rfl)
theorem kw_13_21 : Cond.constantLong RX7 144 (17) ∈ wsL_law := kr_13 _ (List.mem_of_getElem? (i := 21) rfl)
theorem kw_13_22 : Cond.constantLong RX7 146 (7) ∈ wsL_law := kr_13 _ (List.mem_of_getElem? (i := 22) rfl)
theorem kw_13_23 : Cond.fieldLink RX7 121 "StreetTillTenModel" "yearNow" "I" ∈ wsL_law := kr_13 _ (List.mem_of_getElem? (i := 23) rfl)
theorem kw_14_0 : Cond.methodLink RX7 139 yX7_strengthOf ∈ wsL_law := kr_14 _ (List.mem_of_getElem? (i := 0) rfl)
theorem kw_14_1 : Cond.instanceMethod yX7_strengthOf ∈ wsL_law := kr_14 _ (List.mem_of_getElem? (i := 1) rfl)
theorem kw_14_2 : Cond.selects RX7 yX7_strengthOf yX7_strengthOf ∈ wsL_law := kr_14 _ (List.mem_of_getElem? (i := 2) rfl)
theorem kw_14_3 : Cond.code yX7_strengthOf cX7_strengthOf 3 (some .int) ∈ wsL_law := kr_14 _ (List.mem_of_getElem? (i := 3) rfl)
theorem kw_14_4 : Cond.methodLink RX7 148 yX7_seatsOf ∈ wsL_law := kr_14 _ (List.mem_of_getElem? (i := 4) rfl)
theorem kw_14_5 : Cond.instanceMethod yX7_seatsOf ∈ wsL_law := kr_14 _ (List.mem_of_getElem? (i := 5) rfl)
theorem kw_14_6 : Cond.selects RX7 yX7_seatsOf yX7_seatsOf ∈ wsL_law := kr_14 _ (List.mem_of_getElem? (i := 6) rfl)
theorem kw_14_7 : Cond.code yX7_seatsOf cX7_seatsOf 4 (some .int) ∈ wsL_law := kr_14 _ (List.mem_of_getElem? (i := 7) rfl)
theorem kw_14_8 : Cond.methodLink RX7 152 yX7_soundsOf ∈ wsL_law := kr_14 _ (List.mem_of_getElem? (i := 8) rfl)
theorem kw_14_9 : Cond.instanceMethod yX7_soundsOf ∈ wsL_law := kr_14 _ (List.mem_of_getElem? (i := 9) rfl)
theorem kw_14_10 : Cond.selects RX7 yX7_soundsOf yX7_soundsOf ∈ wsL_law := kr_14 _ (List.mem_of_getElem? (i := 10) rfl)
theorem kw_14_11 : Cond.code yX7_soundsOf cX7_soundsOf 4 (some .int) ∈ wsL_law := kr_14 _ (List.mem_of_getElem? (i := 11) rfl)
theorem kw_14_12 : Cond.methodLink RX7 367 yX7_says ∈ wsL_law := kr_14 _ (List.mem_of_getElem? (i := 12) rfl)
theorem kw_14_13 : Cond.instanceMethod yX7_says ∈ wsL_law := kr_14 _ (List.mem_of_getElem? (i := 13) rfl)
theorem kw_14_14 : Cond.selects RX7 yX7_says yX7_says ∈ wsL_law := kr_14 _ (List.mem_of_getElem? (i := 14) rfl)
theorem kw_14_15 : Cond.code yX7_says cX7_says 4 (some .int) ∈ wsL_law := kr_14 _ (List.mem_of_getElem? (i := 15) rfl)
theorem kw_14_16 : Cond.fieldLink RX7 216 "StreetTillTenModel" "ofStrength" "I" ∈ wsL_law := kr_14 _ (List.mem_of_getElem? (i := 16) rfl)
theorem kw_14_17 : Cond.fieldLink RX7 219 "StreetTillTenModel" "ofNumber" "I" ∈ wsL_law := kr_14 _ (List.mem_of_getElem? (i := 17) rfl)
theorem kw_14_18 : Cond.fieldLink RX7 222 "StreetTillTenModel" "ofOther" "I" ∈ wsL_law := kr_14 _ (List.mem_of_getElem? (i := 18) rfl)
theorem kw_14_19 : Cond.fieldLink RX7 225 "StreetTillTenModel" "ofSeats" "I" ∈ wsL_law := kr_14 _ (List.mem_of_getElem? (i := 19) rfl)
theorem kw_14_20 : Cond.fieldLink RX7 228 "StreetTillTenModel" "ofYear" "I" ∈ wsL_law := kr_14 _ (List.mem_of_getElem? (i := 20) rfl)
theorem kw_14_21 : Cond.fieldLink RX7 231 "StreetTillTenModel" "ofApart" "I" ∈ wsL_law := kr_14 _ (List.mem_of_getElem? (i := 21) rfl)
theorem kw_14_22 : Cond.fieldLink RX7 124 "StreetTillTenModel" "rule" "I" ∈ wsL_law := kr_14 _ (List.mem_of_getElem? (i := 22) rfl)
theorem kw_14_23 : Cond.methodLink RX7 364 yX7_apart ∈ wsL_law := kr_14 _ (List.mem_of_getElem? (i := 23) rfl)
theorem kw_15_0 : Cond.static yX7_apart ∈ wsL_law := kr_15 _ (List.mem_of_getElem? (i := 0) rfl)
theorem kw_15_1 : Cond.code yX7_apart cX7_apart 2 (some .int) ∈ wsL_law := kr_15 _ (List.mem_of_getElem? (i := 1) rfl)
theorem kw_15_2 : Cond.methodLink RX7 361 yX7_read ∈ wsL_law := kr_15 _ (List.mem_of_getElem? (i := 2) rfl)
theorem kw_15_3 : Cond.instanceMethod yX7_read ∈ wsL_law := kr_15 _ (List.mem_of_getElem? (i := 3) rfl)
theorem kw_15_4 : Cond.selects RX7 yX7_read yX7_read ∈ wsL_law := kr_15 _ (List.mem_of_getElem? (i := 4) rfl)
theorem kw_15_5 : Cond.code yX7_read cX7_read 6 (some .int) ∈ wsL_law := kr_15 _ (List.mem_of_getElem? (i := 5) rfl)
theorem kw_15_6 : Cond.fieldLink RX7 166 "StreetTillTenModel" "from" "I" ∈ wsL_law := kr_15 _ (List.mem_of_getElem? (i := 6) rfl)
theorem kw_15_7 : Cond.fieldLink RX7 163 "StreetTillTenModel" "size" "I" ∈ wsL_law := kr_15 _ (List.mem_of_getElem? (i := 7) rfl)
theorem kw_15_8 : Cond.fieldLink RX7 169 "StreetTillTenModel" "here" "I" ∈ wsL_law := kr_15 _ (List.mem_of_getElem? (i := 8) rfl)
theorem kw_15_9 : Cond.fieldLink RX7 203 "StreetTillTenModel" "open" "I" ∈ wsL_law := kr_15 _ (List.mem_of_getElem? (i := 9) rfl)
theorem kw_15_10 : Cond.fieldLink RX7 193 "StreetTillTenModel" "bad" "Z" ∈ wsL_law := kr_15 _ (List.mem_of_getElem? (i := 10) rfl)
theorem kw_15_11 : Cond.fieldLink RX7 178 "StreetTillTenModel" "token" "I" ∈ wsL_law := kr_15 _ (List.mem_of_getElem? (i := 11) rfl)
theorem kw_15_12 : Cond.methodLink RX7 209 yX7_next ∈ wsL_law := kr_15 _ (List.mem_of_getElem? (i := 12) rfl)
theorem kw_15_13 : Cond.instanceMethod yX7_next ∈ wsL_law := kr_15 _ (List.mem_of_getElem? (i := 13) rfl)
theorem kw_15_14 : Cond.selects RX7 yX7_next yX7_next ∈ wsL_law := kr_15 _ (List.mem_of_getElem? (i := 14) rfl)
theorem kw_15_15 : Cond.code yX7_next cX7_next 3 none ∈ wsL_law := kr_15 _ (List.mem_of_getElem? (i := 15) rfl)
theorem kw_15_16 : Cond.fieldLink RX7 175 "StreetTillTenModel" "tokenAt" "I" ∈ wsL_law := kr_15 _ (List.mem_of_getElem? (i := 16) rfl)
theorem kw_15_17 : Cond.constantLong RX7 181 (97) ∈ wsL_law := kr_15 _ (List.mem_of_getElem? (i := 17) rfl)
theorem kw_15_18 : Cond.constantLong RX7 183 (122) ∈ wsL_law := kr_15 _ (List.mem_of_getElem? (i := 18) rfl)
theorem kw_15_19 : Cond.constantLong RX7 185 (48) ∈ wsL_law := kr_15 _ (List.mem_of_getElem? (i := 19) rfl)
theorem kw_15_20 : Cond.constantLong RX7 187 (57) ∈ wsL_law := kr_15 _ (List.mem_of_getElem? (i := 20) rfl)
theorem kw_15_21 : Cond.fieldLink RX7 189 "StreetTillTenModel" "tokenWorth" "J" ∈ wsL_law := kr_15 _ (List.mem_of_getElem? (i := 21) rfl)
theorem kw_15_22 : Cond.methodLink RX7 172 yX7_byteAt ∈ wsL_law := kr_15 _ (List.mem_of_getElem? (i := 22) rfl)
theorem kw_15_23 : Cond.instanceMethod yX7_byteAt ∈ wsL_law := kr_15 _ (List.mem_of_getElem? (i := 23) rfl)
theorem kw_16_0 : Cond.selects RX7 yX7_byteAt yX7_byteAt ∈ wsL_law := kr_16 _ (List.mem_of_getElem? (i := 0) rfl)
theorem kw_16_1 : Cond.code yX7_byteAt cX7_byteAt 2 (some .int) ∈ wsL_law := kr_16 _ (List.mem_of_getElem? (i := 1) rfl)
theorem kw_16_2 : Cond.methodLink RX7 212 yX7_isWord ∈ wsL_law := kr_16 _ (List.mem_of_getElem? (i := 2) rfl)
theorem kw_16_3 : Cond.instanceMethod yX7_isWord ∈ wsL_law := kr_16 _ (List.mem_of_getElem? (i := 3) rfl)
theorem kw_16_4 : Cond.selects RX7 yX7_isWord yX7_isWord ∈ wsL_law := kr_16 _ (List.mem_of_getElem? (i := 4) rfl)
theorem kw_16_5 : Cond.code yX7_isWord cX7_isWord 9 (some .boolean) ∈ wsL_law := kr_16 _ (List.mem_of_getElem? (i := 5) rfl)
theorem kw_16_6 : Cond.methodLink RX7 200 yX7_isLetter ∈ wsL_law := kr_16 _ (List.mem_of_getElem? (i := 6) rfl)
theorem kw_16_7 : Cond.instanceMethod yX7_isLetter ∈ wsL_law := kr_16 _ (List.mem_of_getElem? (i := 7) rfl)
theorem kw_16_8 : Cond.selects RX7 yX7_isLetter yX7_isLetter ∈ wsL_law := kr_16 _ (List.mem_of_getElem? (i := 8) rfl)
theorem kw_16_9 : Cond.code yX7_isLetter cX7_isLetter 3 (some .boolean) ∈ wsL_law := kr_16 _ (List.mem_of_getElem? (i := 9) rfl)
theorem kw_16_10 : Cond.methodLink RX7 357 yX7_part ∈ wsL_law := kr_16 _ (List.mem_of_getElem? (i := 10) rfl)
theorem kw_16_11 : Cond.instanceMethod yX7_part ∈ wsL_law := kr_16 _ (List.mem_of_getElem? (i := 11) rfl)
theorem kw_16_12 : Cond.selects RX7 yX7_part yX7_part ∈ wsL_law := kr_16 _ (List.mem_of_getElem? (i := 12) rfl)
theorem kw_16_13 : Cond.code yX7_part cX7_part 3 (some .int) ∈ wsL_law := kr_16 _ (List.mem_of_getElem? (i := 13) rfl)
theorem kw_16_14 : Cond.methodLink RX7 206 yX7_fail ∈ wsL_law := kr_16 _ (List.mem_of_getElem? (i := 14) rfl)
theorem kw_16_15 : Cond.instanceMethod yX7_fail ∈ wsL_law := kr_16 _ (List.mem_of_getElem? (i := 15) rfl)
theorem kw_16_16 : Cond.selects RX7 yX7_fail yX7_fail ∈ wsL_law := kr_16 _ (List.mem_of_getElem? (i := 16) rfl)
theorem kw_16_17 : Cond.code yX7_fail cX7_fail 1 none ∈ wsL_law := kr_16 _ (List.mem_of_getElem? (i := 17) rfl)
theorem kw_16_18 : Cond.fieldLink RX7 197 "StreetTillTenModel" "fault" "I" ∈ wsL_law := kr_16 _ (List.mem_of_getElem? (i := 18) rfl)
theorem kw_16_19 : Cond.methodLink RX7 354 yX7_either0 ∈ wsL_law := kr_16 _ (List.mem_of_getElem? (i := 19) rfl)
theorem kw_16_20 : Cond.instanceMethod yX7_either0 ∈ wsL_law := kr_16 _ (List.mem_of_getElem? (i := 20) rfl)
theorem kw_16_21 : Cond.selects RX7 yX7_either0 yX7_either0 ∈ wsL_law := kr_16 _ (List.mem_of_getElem? (i := 21) rfl)
theorem kw_16_22 : Cond.code yX7_either0 cX7_either0 3 (some .int) ∈ wsL_law := kr_16 _ (List.mem_of_getElem? (i := 22) rfl)
theorem kw_16_23 : Cond.methodLink RX7 351 yX7_both0 ∈ wsL_law := kr_16 _ (List.mem_of_getElem? (i := 23) rfl)
theorem kw_17_0 : Cond.instanceMethod yX7_both0 ∈ wsL_law := kr_17 _ (List.mem_of_getElem? (i := 0) rfl)
theorem kw_17_1 : Cond.selects RX7 yX7_both0 yX7_both0 ∈ wsL_law := kr_17 _ (List.mem_of_getElem? (i := 1) rfl)
theorem kw_17_2 : Cond.code yX7_both0 cX7_both0 3 (some .int) ∈ wsL_law := kr_17 _ (List.mem_of_getElem? (i := 2) rfl)
theorem kw_17_3 : Cond.methodLink RX7 348 yX7_not0 ∈ wsL_law := kr_17 _ (List.mem_of_getElem? (i := 3) rfl)
theorem kw_17_4 : Cond.instanceMethod yX7_not0 ∈ wsL_law := kr_17 _ (List.mem_of_getElem? (i := 4) rfl)
theorem kw_17_5 : Cond.selects RX7 yX7_not0 yX7_not0 ∈ wsL_law := kr_17 _ (List.mem_of_getElem? (i := 5) rfl)
theorem kw_17_6 : Cond.code yX7_not0 cX7_not0 4 (some .int) ∈ wsL_law := kr_17 _ (List.mem_of_getElem? (i := 6) rfl)
theorem kw_17_7 : Cond.constantLong RX7 256 (60) ∈ wsL_law := kr_17 _ (List.mem_of_getElem? (i := 7) rfl)
theorem kw_17_8 : Cond.methodLink RX7 237 yX7_opens ∈ wsL_law := kr_17 _ (List.mem_of_getElem? (i := 8) rfl)
theorem kw_17_9 : Cond.instanceMethod yX7_opens ∈ wsL_law := kr_17 _ (List.mem_of_getElem? (i := 9) rfl)
theorem kw_17_10 : Cond.selects RX7 yX7_opens yX7_opens ∈ wsL_law := kr_17 _ (List.mem_of_getElem? (i := 10) rfl)
theorem kw_17_11 : Cond.code yX7_opens cX7_opens 1 (some .boolean) ∈ wsL_law := kr_17 _ (List.mem_of_getElem? (i := 11) rfl)
theorem kw_17_12 : Cond.methodLink RX7 330 yX7_not1 ∈ wsL_law := kr_17 _ (List.mem_of_getElem? (i := 12) rfl)
theorem kw_17_13 : Cond.instanceMethod yX7_not1 ∈ wsL_law := kr_17 _ (List.mem_of_getElem? (i := 13) rfl)
theorem kw_17_14 : Cond.selects RX7 yX7_not1 yX7_not1 ∈ wsL_law := kr_17 _ (List.mem_of_getElem? (i := 14) rfl)
theorem kw_17_15 : Cond.code yX7_not1 cX7_not1 4 (some .int) ∈ wsL_law := kr_17 _ (List.mem_of_getElem? (i := 15) rfl)
theorem kw_17_16 : Cond.methodLink RX7 312 yX7_not2 ∈ wsL_law := kr_17 _ (List.mem_of_getElem? (i := 16) rfl)
theorem kw_17_17 : Cond.instanceMethod yX7_not2 ∈ wsL_law := kr_17 _ (List.mem_of_getElem? (i := 17) rfl)
theorem kw_17_18 : Cond.selects RX7 yX7_not2 yX7_not2 ∈ wsL_law := kr_17 _ (List.mem_of_getElem? (i := 18) rfl)
theorem kw_17_19 : Cond.code yX7_not2 cX7_not2 4 (some .int) ∈ wsL_law := kr_17 _ (List.mem_of_getElem? (i := 19) rfl)
theorem kw_17_20 : Cond.methodLink RX7 294 yX7_not3 ∈ wsL_law := kr_17 _ (List.mem_of_getElem? (i := 20) rfl)
theorem kw_17_21 : Cond.instanceMethod yX7_not3 ∈ wsL_law := kr_17 _ (List.mem_of_getElem? (i := 21) rfl)
theorem kw_17_22 : Cond.selects RX7 yX7_not3 yX7_not3 ∈ wsL_law := kr_17 _ (List.mem_of_getElem? (i := 22) rfl)
theorem kw_17_23 : Cond.code yX7_not3 cX7_not3 4 (some .int) ∈ wsL_law := kr_17 _ (List.mem_of_getElem? (i := 23) rfl)
theorem kw_18_0 : Cond.methodLink RX7 276 yX7_not4 ∈ wsL_law := kr_18 _ (List.mem_of_getElem? (i := 0) rfl)
theorem kw_18_1 : Cond.instanceMethod yX7_not4 ∈ wsL_law := kr_18 _ (List.mem_of_getElem? (i := 1) rfl)
theorem kw_18_2 : Cond.selects RX7 yX7_not4 yX7_not4 ∈ wsL_law := kr_18 _ (List.mem_of_getElem? (i := 2) rfl)
theorem kw_18_3 : Cond.code yX7_not4 cX7_not4 4 (some .int) ∈ wsL_law := kr_18 _ (List.mem_of_getElem? (i := 3) rfl)
theorem kw_18_4 : Cond.methodLink RX7 258 yX7_not5 ∈ wsL_law := kr_18 _ (List.mem_of_getElem? (i := 4) rfl)
theorem kw_18_5 : Cond.instanceMethod yX7_not5 ∈ wsL_law := kr_18 _ (List.mem_of_getElem? (i := 5) rfl)
theorem kw_18_6 : Cond.selects RX7 yX7_not5 yX7_not5 ∈ wsL_law := kr_18 _ (List.mem_of_getElem? (i := 6) rfl)
theorem kw_18_7 : Cond.code yX7_not5 cX7_not5 4 (some .int) ∈ wsL_law := kr_18 _ (List.mem_of_getElem? (i := 7) rfl)
theorem kw_18_8 : Cond.methodLink RX7 253 yX7_added5 ∈ wsL_law := kr_18 _ (List.mem_of_getElem? (i := 8) rfl)
theorem kw_18_9 : Cond.instanceMethod yX7_added5 ∈ wsL_law := kr_18 _ (List.mem_of_getElem? (i := 9) rfl)
theorem kw_18_10 : Cond.selects RX7 yX7_added5 yX7_added5 ∈ wsL_law := kr_18 _ (List.mem_of_getElem? (i := 10) rfl)
theorem kw_18_11 : Cond.code yX7_added5 cX7_added5 4 (some .int) ∈ wsL_law := kr_18 _ (List.mem_of_getElem? (i := 11) rfl)
theorem kw_18_12 : Cond.constantLong RX7 251 (43) ∈ wsL_law := kr_18 _ (List.mem_of_getElem? (i := 12) rfl)
theorem kw_18_13 : Cond.methodLink RX7 248 yX7_term5 ∈ wsL_law := kr_18 _ (List.mem_of_getElem? (i := 13) rfl)
theorem kw_18_14 : Cond.instanceMethod yX7_term5 ∈ wsL_law := kr_18 _ (List.mem_of_getElem? (i := 14) rfl)
theorem kw_18_15 : Cond.selects RX7 yX7_term5 yX7_term5 ∈ wsL_law := kr_18 _ (List.mem_of_getElem? (i := 15) rfl)
theorem kw_18_16 : Cond.code yX7_term5 cX7_term5 2 (some .int) ∈ wsL_law := kr_18 _ (List.mem_of_getElem? (i := 16) rfl)
theorem kw_18_17 : Cond.methodLink RX7 245 yX7_atom5 ∈ wsL_law := kr_18 _ (List.mem_of_getElem? (i := 17) rfl)
theorem kw_18_18 : Cond.instanceMethod yX7_atom5 ∈ wsL_law := kr_18 _ (List.mem_of_getElem? (i := 18) rfl)
theorem kw_18_19 : Cond.selects RX7 yX7_atom5 yX7_atom5 ∈ wsL_law := kr_18 _ (List.mem_of_getElem? (i := 19) rfl)
theorem kw_18_20 : Cond.code yX7_atom5 cX7_atom5 2 (some .int) ∈ wsL_law := kr_18 _ (List.mem_of_getElem? (i := 20) rfl)
theorem kw_18_21 : Cond.methodLink RX7 234 yX7_isSign ∈ wsL_law := kr_18 _ (List.mem_of_getElem? (i := 21) rfl)
theorem kw_18_22 : Cond.instanceMethod yX7_isSign ∈ wsL_law := kr_18 _ (List.mem_of_getElem? (i := 22) rfl)
theorem kw_18_23 : Cond.selects RX7 yX7_isSign yX7_isSign ∈ wsL_law := kr_18 _ (List.mem_of_getElem? (i := 23) rfl)
theorem kw_19_0 : Cond.code yX7_isSign cX7_isSign 2 (some .boolean) ∈ wsL_law := kr_19 _ (List.mem_of_getElem? (i := 0) rfl)
theorem kw_19_1 : Cond.methodLink RX7 241 yX7_name ∈ wsL_law := kr_19 _ (List.mem_of_getElem? (i := 1) rfl)
theorem kw_19_2 : Cond.instanceMethod yX7_name ∈ wsL_law := kr_19 _ (List.mem_of_getElem? (i := 2) rfl)
theorem kw_19_3 : Cond.selects RX7 yX7_name yX7_name ∈ wsL_law := kr_19 _ (List.mem_of_getElem? (i := 3) rfl)
theorem kw_19_4 : Cond.code yX7_name cX7_name 1 (some .int) ∈ wsL_law := kr_19 _ (List.mem_of_getElem? (i := 4) rfl)
theorem kw_19_5 : Cond.methodLink RX7 273 yX7_added4 ∈ wsL_law := kr_19 _ (List.mem_of_getElem? (i := 5) rfl)
theorem kw_19_6 : Cond.instanceMethod yX7_added4 ∈ wsL_law := kr_19 _ (List.mem_of_getElem? (i := 6) rfl)
theorem kw_19_7 : Cond.selects RX7 yX7_added4 yX7_added4 ∈ wsL_law := kr_19 _ (List.mem_of_getElem? (i := 7) rfl)
theorem kw_19_8 : Cond.code yX7_added4 cX7_added4 4 (some .int) ∈ wsL_law := kr_19 _ (List.mem_of_getElem? (i := 8) rfl)
theorem kw_19_9 : Cond.methodLink RX7 270 yX7_term4 ∈ wsL_law := kr_19 _ (List.mem_of_getElem? (i := 9) rfl)
theorem kw_19_10 : Cond.instanceMethod yX7_term4 ∈ wsL_law := kr_19 _ (List.mem_of_getElem? (i := 10) rfl)
theorem kw_19_11 : Cond.selects RX7 yX7_term4 yX7_term4 ∈ wsL_law := kr_19 _ (List.mem_of_getElem? (i := 11) rfl)
theorem kw_19_12 : Cond.code yX7_term4 cX7_term4 2 (some .int) ∈ wsL_law := kr_19 _ (List.mem_of_getElem? (i := 12) rfl)
theorem kw_19_13 : Cond.methodLink RX7 267 yX7_atom4 ∈ wsL_law := kr_19 _ (List.mem_of_getElem? (i := 13) rfl)
theorem kw_19_14 : Cond.instanceMethod yX7_atom4 ∈ wsL_law := kr_19 _ (List.mem_of_getElem? (i := 14) rfl)
theorem kw_19_15 : Cond.selects RX7 yX7_atom4 yX7_atom4 ∈ wsL_law := kr_19 _ (List.mem_of_getElem? (i := 15) rfl)
theorem kw_19_16 : Cond.code yX7_atom4 cX7_atom4 2 (some .int) ∈ wsL_law := kr_19 _ (List.mem_of_getElem? (i := 16) rfl)
theorem kw_19_17 : Cond.methodLink RX7 264 yX7_either5 ∈ wsL_law := kr_19 _ (List.mem_of_getElem? (i := 17) rfl)
theorem kw_19_18 : Cond.instanceMethod yX7_either5 ∈ wsL_law := kr_19 _ (List.mem_of_getElem? (i := 18) rfl)
theorem kw_19_19 : Cond.selects RX7 yX7_either5 yX7_either5 ∈ wsL_law := kr_19 _ (List.mem_of_getElem? (i := 19) rfl)
theorem kw_19_20 : Cond.code yX7_either5 cX7_either5 3 (some .int) ∈ wsL_law := kr_19 _ (List.mem_of_getElem? (i := 20) rfl)
theorem kw_19_21 : Cond.methodLink RX7 261 yX7_both5 ∈ wsL_law := kr_19 _ (List.mem_of_getElem? (i := 21) rfl)
theorem kw_19_22 : Cond.instanceMethod yX7_both5 ∈ wsL_law := kr_19 _ (List.mem_of_getElem? (i := 22) rfl)
theorem kw_19_23 : Cond.selects RX7 yX7_both5 yX7_both5 ∈ wsL_law := kr_19 _ (List.mem_of_getElem? (i := 23) rfl)
theorem kw_20_0 : Cond.code yX7_both5 cX7_both5 3 (some .int) ∈ wsL_law := kr_20 _ (List.mem_of_getElem? (i := 0) rfl)
theorem kw_20_1 : Cond.methodLink RX7 291 yX7_added3 ∈ wsL_law := kr_20 _ (List.mem_of_getElem? (i := 1) rfl)
theorem kw_20_2 : Cond.instanceMethod yX7_added3 ∈ wsL_law := kr_20 _ (List.mem_of_getElem? (i := 2) rfl)
theorem kw_20_3 : Cond.selects RX7 yX7_added3 yX7_added3 ∈ wsL_law := kr_20 _ (List.mem_of_getElem? (i := 3) rfl)
theorem kw_20_4 : Cond.code yX7_added3 cX7_added3 4 (some .int) ∈ wsL_law := kr_20 _ (List.mem_of_getElem? (i := 4) rfl)
theorem kw_20_5 : Cond.methodLink RX7 288 yX7_term3 ∈ wsL_law := kr_20 _ (List.mem_of_getElem? (i := 5) rfl)
theorem kw_20_6 : Cond.instanceMethod yX7_term3 ∈ wsL_law := kr_20 _ (List.mem_of_getElem? (i := 6) rfl)
theorem kw_20_7 : Cond.selects RX7 yX7_term3 yX7_term3 ∈ wsL_law := kr_20 _ (List.mem_of_getElem? (i := 7) rfl)
theorem kw_20_8 : Cond.code yX7_term3 cX7_term3 2 (some .int) ∈ wsL_law := kr_20 _ (List.mem_of_getElem? (i := 8) rfl)
theorem kw_20_9 : Cond.methodLink RX7 285 yX7_atom3 ∈ wsL_law := kr_20 _ (List.mem_of_getElem? (i := 9) rfl)
theorem kw_20_10 : Cond.instanceMethod yX7_atom3 ∈ wsL_law := kr_20 _ (List.mem_of_getElem? (i := 10) rfl)
theorem kw_20_11 : Cond.selects RX7 yX7_atom3 yX7_atom3 ∈ wsL_law := kr_20 _ (List.mem_of_getElem? (i := 11) rfl)
theorem kw_20_12 : Cond.code yX7_atom3 cX7_atom3 2 (some .int) ∈ wsL_law := kr_20 _ (List.mem_of_getElem? (i := 12) rfl)
theorem kw_20_13 : Cond.methodLink RX7 282 yX7_either4 ∈ wsL_law := kr_20 _ (List.mem_of_getElem? (i := 13) rfl)
theorem kw_20_14 : Cond.instanceMethod yX7_either4 ∈ wsL_law := kr_20 _ (List.mem_of_getElem? (i := 14) rfl)
theorem kw_20_15 : Cond.selects RX7 yX7_either4 yX7_either4 ∈ wsL_law := kr_20 _ (List.mem_of_getElem? (i := 15) rfl)
theorem kw_20_16 : Cond.code yX7_either4 cX7_either4 3 (some .int) ∈ wsL_law := kr_20 _ (List.mem_of_getElem? (i := 16) rfl)
theorem kw_20_17 : Cond.methodLink RX7 279 yX7_both4 ∈ wsL_law := kr_20 _ (List.mem_of_getElem? (i := 17) rfl)
theorem kw_20_18 : Cond.instanceMethod yX7_both4 ∈ wsL_law := kr_20 _ (List.mem_of_getElem? (i := 18) rfl)
theorem kw_20_19 : Cond.selects RX7 yX7_both4 yX7_both4 ∈ wsL_law := kr_20 _ (List.mem_of_getElem? (i := 19) rfl)
theorem kw_20_20 : Cond.code yX7_both4 cX7_both4 3 (some .int) ∈ wsL_law := kr_20 _ (List.mem_of_getElem? (i := 20) rfl)
theorem kw_20_21 : Cond.methodLink RX7 309 yX7_added2 ∈ wsL_law := kr_20 _ (List.mem_of_getElem? (i := 21) rfl)
theorem kw_20_22 : Cond.instanceMethod yX7_added2 ∈ wsL_law := kr_20 _ (List.mem_of_getElem? (i := 22) rfl)
theorem kw_20_23 : Cond.selects RX7 yX7_added2 yX7_added2 ∈ wsL_law := kr_20 _ (List.mem_of_getElem? (i := 23) rfl)
theorem kw_21_0 : Cond.code yX7_added2 cX7_added2 4 (some .int) ∈ wsL_law := kr_21 _ (List.mem_of_getElem? (i := 0) rfl)
theorem kw_21_1 : Cond.methodLink RX7 306 yX7_term2 ∈ wsL_law := kr_21 _ (List.mem_of_getElem? (i := 1) rfl)
theorem kw_21_2 : Cond.instanceMethod yX7_term2 ∈ wsL_law := kr_21 _ (List.mem_of_getElem? (i := 2) rfl)
theorem kw_21_3 : Cond.selects RX7 yX7_term2 yX7_term2 ∈ wsL_law := kr_21 _ (List.mem_of_getElem? (i := 3) rfl)
theorem kw_21_4 : Cond.code yX7_term2 cX7_term2 2 (some .int) ∈ wsL_law := kr_21 _ (List.mem_of_getElem? (i := 4) rfl)
theorem kw_21_5 : Cond.methodLink RX7 303 yX7_atom2 ∈ wsL_law := kr_21 _ (List.mem_of_getElem? (i := 5) rfl)
theorem kw_21_6 : Cond.instanceMethod yX7_atom2 ∈ wsL_law := kr_21 _ (List.mem_of_getElem? (i := 6) rfl)
theorem kw_21_7 : Cond.selects RX7 yX7_atom2 yX7_atom2 ∈ wsL_law := kr_21 _ (List.mem_of_getElem? (i := 7) rfl)
theorem kw_21_8 : Cond.code yX7_atom2 cX7_atom2 2 (some .int) ∈ wsL_law := kr_21 _ (List.mem_of_getElem? (i := 8) rfl)
theorem kw_21_9 : Cond.methodLink RX7 300 yX7_either3 ∈ wsL_law := kr_21 _ (List.mem_of_getElem? (i := 9) rfl)
theorem kw_21_10 : Cond.instanceMethod yX7_either3 ∈ wsL_law := kr_21 _ (List.mem_of_getElem? (i := 10) rfl)
theorem kw_21_11 : Cond.selects RX7 yX7_either3 yX7_either3 ∈ wsL_law := kr_21 _ (List.mem_of_getElem? (i := 11) rfl)
theorem kw_21_12 : Cond.code yX7_either3 cX7_either3 3 (some .int) ∈ wsL_law := kr_21 _ (List.mem_of_getElem? (i := 12) rfl)
theorem kw_21_13 : Cond.methodLink RX7 297 yX7_both3 ∈ wsL_law := kr_21 _ (List.mem_of_getElem? (i := 13) rfl)
theorem kw_21_14 : Cond.instanceMethod yX7_both3 ∈ wsL_law := kr_21 _ (List.mem_of_getElem? (i := 14) rfl)
theorem kw_21_15 : Cond.selects RX7 yX7_both3 yX7_both3 ∈ wsL_law := kr_21 _ (List.mem_of_getElem? (i := 15) rfl)
theorem kw_21_16 : Cond.code yX7_both3 cX7_both3 3 (some .int) ∈ wsL_law := kr_21 _ (List.mem_of_getElem? (i := 16) rfl)
theorem kw_21_17 : Cond.methodLink RX7 327 yX7_added1 ∈ wsL_law := kr_21 _ (List.mem_of_getElem? (i := 17) rfl)
theorem kw_21_18 : Cond.instanceMethod yX7_added1 ∈ wsL_law := kr_21 _ (List.mem_of_getElem? (i := 18) rfl)
theorem kw_21_19 : Cond.selects RX7 yX7_added1 yX7_added1 ∈ wsL_law := kr_21 _ (List.mem_of_getElem? (i := 19) rfl)
theorem kw_21_20 : Cond.code yX7_added1 cX7_added1 4 (some .int) ∈ wsL_law := kr_21 _ (List.mem_of_getElem? (i := 20) rfl)
theorem kw_21_21 : Cond.methodLink RX7 324 yX7_term1 ∈ wsL_law := kr_21 _ (List.mem_of_getElem? (i := 21) rfl)
theorem kw_21_22 : Cond.instanceMethod yX7_term1 ∈ wsL_law := kr_21 _ (List.mem_of_getElem? (i := 22) rfl)
theorem kw_21_23 : Cond.selects RX7 yX7_term1 yX7_term1 ∈ wsL_law := kr_21 _ (List.mem_of_getElem? (i := 23) rfl)
theorem kw_22_0 : Cond.code yX7_term1 cX7_term1 2 (some .int) ∈ wsL_law := kr_22 _ (List.mem_of_getElem? (i := 0) rfl)
theorem kw_22_1 : Cond.methodLink RX7 321 yX7_atom1 ∈ wsL_law := kr_22 _ (List.mem_of_getElem? (i := 1) rfl)
theorem kw_22_2 : Cond.instanceMethod yX7_atom1 ∈ wsL_law := kr_22 _ (List.mem_of_getElem? (i := 2) rfl)
theorem kw_22_3 : Cond.selects RX7 yX7_atom1 yX7_atom1 ∈ wsL_law := kr_22 _ (List.mem_of_getElem? (i := 3) rfl)
theorem kw_22_4 : Cond.code yX7_atom1 cX7_atom1 2 (some .int) ∈ wsL_law := kr_22 _ (List.mem_of_getElem? (i := 4) rfl)
theorem kw_22_5 : Cond.methodLink RX7 318 yX7_either2 ∈ wsL_law := kr_22 _ (List.mem_of_getElem? (i := 5) rfl)
theorem kw_22_6 : Cond.instanceMethod yX7_either2 ∈ wsL_law := kr_22 _ (List.mem_of_getElem? (i := 6) rfl)
theorem kw_22_7 : Cond.selects RX7 yX7_either2 yX7_either2 ∈ wsL_law := kr_22 _ (List.mem_of_getElem? (i := 7) rfl)
theorem kw_22_8 : Cond.code yX7_either2 cX7_either2 3 (some .int) ∈ wsL_law := kr_22 _ (List.mem_of_getElem? (i := 8) rfl)
theorem kw_22_9 : Cond.methodLink RX7 315 yX7_both2 ∈ wsL_law := kr_22 _ (List.mem_of_getElem? (i := 9) rfl)
theorem kw_22_10 : Cond.instanceMethod yX7_both2 ∈ wsL_law := kr_22 _ (List.mem_of_getElem? (i := 10) rfl)
theorem kw_22_11 : Cond.selects RX7 yX7_both2 yX7_both2 ∈ wsL_law := kr_22 _ (List.mem_of_getElem? (i := 11) rfl)
theorem kw_22_12 : Cond.code yX7_both2 cX7_both2 3 (some .int) ∈ wsL_law := kr_22 _ (List.mem_of_getElem? (i := 12) rfl)
theorem kw_22_13 : Cond.methodLink RX7 345 yX7_added0 ∈ wsL_law := kr_22 _ (List.mem_of_getElem? (i := 13) rfl)
theorem kw_22_14 : Cond.instanceMethod yX7_added0 ∈ wsL_law := kr_22 _ (List.mem_of_getElem? (i := 14) rfl)
theorem kw_22_15 : Cond.selects RX7 yX7_added0 yX7_added0 ∈ wsL_law := kr_22 _ (List.mem_of_getElem? (i := 15) rfl)
theorem kw_22_16 : Cond.code yX7_added0 cX7_added0 4 (some .int) ∈ wsL_law := kr_22 _ (List.mem_of_getElem? (i := 16) rfl)
theorem kw_22_17 : Cond.methodLink RX7 342 yX7_term0 ∈ wsL_law := kr_22 _ (List.mem_of_getElem? (i := 17) rfl)
theorem kw_22_18 : Cond.instanceMethod yX7_term0 ∈ wsL_law := kr_22 _ (List.mem_of_getElem? (i := 18) rfl)
theorem kw_22_19 : Cond.selects RX7 yX7_term0 yX7_term0 ∈ wsL_law := kr_22 _ (List.mem_of_getElem? (i := 19) rfl)
theorem kw_22_20 : Cond.code yX7_term0 cX7_term0 2 (some .int) ∈ wsL_law := kr_22 _ (List.mem_of_getElem? (i := 20) rfl)
theorem kw_22_21 : Cond.methodLink RX7 339 yX7_atom0 ∈ wsL_law := kr_22 _ (List.mem_of_getElem? (i := 21) rfl)
theorem kw_22_22 : Cond.instanceMethod yX7_atom0 ∈ wsL_law := kr_22 _ (List.mem_of_getElem? (i := 22) rfl)
theorem kw_22_23 : Cond.selects RX7 yX7_atom0 yX7_atom0 ∈ wsL_law := kr_22 _ (List.mem_of_getElem? (i := 23) rfl)
theorem kw_23_0 : Cond.code yX7_atom0 cX7_atom0 2 (some .int) ∈ wsL_law := kr_23 _ (List.mem_of_getElem? (i := 0) rfl)
theorem kw_23_1 : Cond.methodLink RX7 336 yX7_either1 ∈ wsL_law := kr_23 _ (List.mem_of_getElem? (i := 1) rfl)
theorem kw_23_2 : Cond.instanceMethod yX7_either1 ∈ wsL_law := kr_23 _ (List.mem_of_getElem? (i := 2) rfl)
theorem kw_23_3 : Cond.selects RX7 yX7_either1 yX7_either1 ∈ wsL_law := kr_23 _ (List.mem_of_getElem? (i := 3) rfl)
theorem kw_23_4 : Cond.code yX7_either1 cX7_either1 3 (some .int) ∈ wsL_law := kr_23 _ (List.mem_of_getElem? (i := 4) rfl)
theorem kw_23_5 : Cond.methodLink RX7 333 yX7_both1 ∈ wsL_law := kr_23 _ (List.mem_of_getElem? (i := 5) rfl)
theorem kw_23_6 : Cond.instanceMethod yX7_both1 ∈ wsL_law := kr_23 _ (List.mem_of_getElem? (i := 6) rfl)
theorem kw_23_7 : Cond.selects RX7 yX7_both1 yX7_both1 ∈ wsL_law := kr_23 _ (List.mem_of_getElem? (i := 7) rfl)
theorem kw_23_8 : Cond.code yX7_both1 cX7_both1 3 (some .int) ∈ wsL_law := kr_23 _ (List.mem_of_getElem? (i := 8) rfl)
theorem kw_23_9 : Cond.methodLink RX7 127 yX7_within ∈ wsL_law := kr_23 _ (List.mem_of_getElem? (i := 9) rfl)
theorem kw_23_10 : Cond.static yX7_within ∈ wsL_law := kr_23 _ (List.mem_of_getElem? (i := 10) rfl)
theorem kw_23_11 : Cond.code yX7_within cX7_within 3 (some .int) ∈ wsL_law := kr_23 _ (List.mem_of_getElem? (i := 11) rfl)
theorem kw_23_12 : Cond.methodLink RX7 155 yX7_knows ∈ wsL_law := kr_23 _ (List.mem_of_getElem? (i := 12) rfl)
theorem kw_23_13 : Cond.instanceMethod yX7_knows ∈ wsL_law := kr_23 _ (List.mem_of_getElem? (i := 13) rfl)
theorem kw_23_14 : Cond.selects RX7 yX7_knows yX7_knows ∈ wsL_law := kr_23 _ (List.mem_of_getElem? (i := 14) rfl)
theorem kw_23_15 : Cond.code yX7_knows cX7_knows 3 (some .boolean) ∈ wsL_law := kr_23 _ (List.mem_of_getElem? (i := 15) rfl)
theorem kw_23_16 : Cond.methodLink RX7 117 yX7_lays ∈ wsL_law := kr_23 _ (List.mem_of_getElem? (i := 16) rfl)
theorem kw_23_17 : Cond.instanceMethod yX7_lays ∈ wsL_law := kr_23 _ (List.mem_of_getElem? (i := 17) rfl)
theorem kw_23_18 : Cond.selects RX7 yX7_lays yX7_lays ∈ wsL_law := kr_23 _ (List.mem_of_getElem? (i := 18) rfl)
theorem kw_23_19 : Cond.code yX7_lays cX7_lays 4 none ∈ wsL_law := kr_23 _ (List.mem_of_getElem? (i := 19) rfl)
theorem kw_23_21 : Cond.instanceMethod yX6_house ∈ wsL_law := kr_23 _ (List.mem_of_getElem? (i := 21) rfl)
theorem kw_23_22 : Cond.selects RX6 yX6_house yX6_house ∈ wsL_law := kr_23 _ (List.mem_of_getElem? (i := 22) rfl)
theorem kw_23_23 : Cond.code yX6_house cX6_house 3 (some .int) ∈ wsL_law := kr_23 _ (List.mem_of_getElem? (i := 23) rfl)
theorem kw_24_0 : Cond.methodLink RX6 116 yX6_settle ∈ wsL_law := kr_24 _ (List.mem_of_getElem? (i := 0) rfl)
theorem kw_24_1 : Cond.instanceMethod yX6_settle ∈ wsL_law := kr_24 _ (List.mem_of_getElem? (i := 1) rfl)
theorem kw_24_2 : Cond.selects RX6 yX6_settle yX6_settle ∈ wsL_law := kr_24 _ (List.mem_of_getElem? (i := 2) rfl)
theorem kw_24_3 : Cond.code yX6_settle cX6_settle 3 (some .int) ∈ wsL_law := kr_24 _ (List.mem_of_getElem? (i := 3) rfl)
theorem kw_24_4 : Cond.methodLink RX6 283 yX3_add ∈ wsL_law := kr_24 _ (List.mem_of_getElem? (i := 4) rfl)
theorem kw_24_5 : Cond.instanceMethod yX3_add ∈ wsL_law := kr_24 _ (List.mem_of_getElem? (i := 5) rfl)
theorem kw_24_6 : Cond.selects RX3 yX3_add yX3_add ∈ wsL_law := kr_24 _ (List.mem_of_getElem? (i := 6) rfl)
theorem kw_24_7 : Cond.code yX3_add cX3_add 3 none ∈ wsL_law := kr_24 _ (List.mem_of_getElem? (i := 7) rfl)
theorem kw_24_8 : Cond.fieldLink RX3 42 "StreetTillTen$Street" "count" "I" ∈ wsL_law := kr_24 _ (List.mem_of_getElem? (i := 8) rfl)
theorem kw_24_10 : Cond.instanceMethod yX7_house ∈ wsL_law := kr_24 _ (List.mem_of_getElem? (i := 10) rfl)
theorem kw_24_11 : Cond.selects RX7 yX7_house yX7_house ∈ wsL_law := kr_24 _ (List.mem_of_getElem? (i := 11) rfl)
theorem kw_24_12 : Cond.code yX7_house cX7_house 4 (some .int) ∈ wsL_law := kr_24 _ (List.mem_of_getElem? (i := 12) rfl)
theorem kw_24_13 : Cond.constantLong RX7 131 (5) ∈ wsL_law := kr_24 _ (List.mem_of_getElem? (i := 13) rfl)
theorem kw_24_14 : Cond.methodLink RX7 133 yX7_binds ∈ wsL_law := kr_24 _ (List.mem_of_getElem? (i := 14) rfl)
theorem kw_24_15 : Cond.instanceMethod yX7_binds ∈ wsL_law := kr_24 _ (List.mem_of_getElem? (i := 15) rfl)
theorem kw_24_16 : Cond.selects RX7 yX7_binds yX7_binds ∈ wsL_law := kr_24 _ (List.mem_of_getElem? (i := 16) rfl)
theorem kw_24_17 : Cond.code yX7_binds cX7_binds 5 none ∈ wsL_law := kr_24 _ (List.mem_of_getElem? (i := 17) rfl)
theorem kw_24_19 : Cond.instanceMethod yX6_bind ∈ wsL_law := kr_24 _ (List.mem_of_getElem? (i := 19) rfl)
theorem kw_24_20 : Cond.selects RX6 yX6_bind yX6_bind ∈ wsL_law := kr_24 _ (List.mem_of_getElem? (i := 20) rfl)
theorem kw_24_21 : Cond.code yX6_bind cX6_bind 5 (some .int) ∈ wsL_law := kr_24 _ (List.mem_of_getElem? (i := 21) rfl)
theorem kw_24_22 : Cond.fieldLink RX6 123 "StreetTillTen$Street" "strength" "[[I" ∈ wsL_law := kr_24 _ (List.mem_of_getElem? (i := 22) rfl)
theorem kw_24_23 : Cond.methodLink RX6 119 yX6_isTwo ∈ wsL_law := kr_24 _ (List.mem_of_getElem? (i := 23) rfl)
theorem kw_25_0 : Cond.instanceMethod yX6_isTwo ∈ wsL_law := kr_25 _ (List.mem_of_getElem? (i := 0) rfl)
theorem kw_25_1 : Cond.selects RX6 yX6_isTwo yX6_isTwo ∈ wsL_law := kr_25 _ (List.mem_of_getElem? (i := 1) rfl)
theorem kw_25_2 : Cond.code yX6_isTwo cX6_isTwo 3 (some .boolean) ∈ wsL_law := kr_25 _ (List.mem_of_getElem? (i := 2) rfl)
theorem kw_25_3 : Cond.methodLink RX6 127 yX3_tie ∈ wsL_law := kr_25 _ (List.mem_of_getElem? (i := 3) rfl)
theorem kw_25_4 : Cond.instanceMethod yX3_tie ∈ wsL_law := kr_25 _ (List.mem_of_getElem? (i := 4) rfl)
theorem kw_25_5 : Cond.selects RX3 yX3_tie yX3_tie ∈ wsL_law := kr_25 _ (List.mem_of_getElem? (i := 5) rfl)
theorem kw_25_6 : Cond.code yX3_tie cX3_tie 4 none ∈ wsL_law := kr_25 _ (List.mem_of_getElem? (i := 6) rfl)
theorem kw_25_8 : Cond.instanceMethod yX7_bind ∈ wsL_law := kr_25 _ (List.mem_of_getElem? (i := 8) rfl)
theorem kw_25_9 : Cond.selects RX7 yX7_bind yX7_bind ∈ wsL_law := kr_25 _ (List.mem_of_getElem? (i := 9) rfl)
theorem kw_25_10 : Cond.code yX7_bind cX7_bind 5 (some .int) ∈ wsL_law := kr_25 _ (List.mem_of_getElem? (i := 10) rfl)
theorem kw_25_11 : Cond.methodLink RX7 136 yX7_areTwo ∈ wsL_law := kr_25 _ (List.mem_of_getElem? (i := 11) rfl)
theorem kw_25_12 : Cond.instanceMethod yX7_areTwo ∈ wsL_law := kr_25 _ (List.mem_of_getElem? (i := 12) rfl)
theorem kw_25_13 : Cond.selects RX7 yX7_areTwo yX7_areTwo ∈ wsL_law := kr_25 _ (List.mem_of_getElem? (i := 13) rfl)
theorem kw_25_14 : Cond.code yX7_areTwo cX7_areTwo 3 (some .boolean) ∈ wsL_law := kr_25 _ (List.mem_of_getElem? (i := 14) rfl)
theorem kw_25_16 : Cond.instanceMethod yX6_told ∈ wsL_law := kr_25 _ (List.mem_of_getElem? (i := 16) rfl)
theorem kw_25_17 : Cond.selects RX6 yX6_told yX6_told ∈ wsL_law := kr_25 _ (List.mem_of_getElem? (i := 17) rfl)
theorem kw_25_18 : Cond.code yX6_told cX6_told 4 (some .int) ∈ wsL_law := kr_25 _ (List.mem_of_getElem? (i := 18) rfl)
theorem kw_25_19 : Cond.fieldLink RX6 131 "StreetTillTen$Street" "kind" "[I" ∈ wsL_law := kr_25 _ (List.mem_of_getElem? (i := 19) rfl)
theorem kw_25_20 : Cond.methodLink RX6 134 yX3_acquaintances ∈ wsL_law := kr_25 _ (List.mem_of_getElem? (i := 20) rfl)
theorem kw_25_21 : Cond.instanceMethod yX3_acquaintances ∈ wsL_law := kr_25 _ (List.mem_of_getElem? (i := 21) rfl)
theorem kw_25_22 : Cond.selects RX3 yX3_acquaintances yX3_acquaintances ∈ wsL_law := kr_25 _ (List.mem_of_getElem? (i := 22) rfl)
theorem kw_25_23 : Cond.code yX3_acquaintances cX3_acquaintances 4 (some .int) ∈ wsL_law := kr_25 _ (List.mem_of_getElem? (i := 23) rfl)
theorem kw_26_0 : Cond.methodLink RX3 51 yX3_knows ∈ wsL_law := kr_26 _ (List.mem_of_getElem? (i := 0) rfl)
theorem kw_26_1 : Cond.instanceMethod yX3_knows ∈ wsL_law := kr_26 _ (List.mem_of_getElem? (i := 1) rfl)
theorem kw_26_2 : Cond.selects RX3 yX3_knows yX3_knows ∈ wsL_law := kr_26 _ (List.mem_of_getElem? (i := 2) rfl)
theorem kw_26_3 : Cond.code yX3_knows cX3_knows 3 (some .boolean) ∈ wsL_law := kr_26 _ (List.mem_of_getElem? (i := 3) rfl)
theorem kw_26_4 : Cond.methodLink RX6 138 yX3_seatsAt ∈ wsL_law := kr_26 _ (List.mem_of_getElem? (i := 4) rfl)
theorem kw_26_5 : Cond.instanceMethod yX3_seatsAt ∈ wsL_law := kr_26 _ (List.mem_of_getElem? (i := 5) rfl)
theorem kw_26_6 : Cond.selects RX3 yX3_seatsAt yX3_seatsAt ∈ wsL_law := kr_26 _ (List.mem_of_getElem? (i := 6) rfl)
theorem kw_26_7 : Cond.code yX3_seatsAt cX3_seatsAt 4 (some .int) ∈ wsL_law := kr_26 _ (List.mem_of_getElem? (i := 7) rfl)
theorem kw_26_8 : Cond.methodLink RX6 141 yX3_sounds ∈ wsL_law := kr_26 _ (List.mem_of_getElem? (i := 8) rfl)
theorem kw_26_9 : Cond.instanceMethod yX3_sounds ∈ wsL_law := kr_26 _ (List.mem_of_getElem? (i := 9) rfl)
theorem kw_26_10 : Cond.selects RX3 yX3_sounds yX3_sounds ∈ wsL_law := kr_26 _ (List.mem_of_getElem? (i := 10) rfl)
theorem kw_26_11 : Cond.code yX3_sounds cX3_sounds 3 (some .int) ∈ wsL_law := kr_26 _ (List.mem_of_getElem? (i := 11) rfl)
theorem kw_26_12 : Cond.methodLink RX3 59 yX3_look ∈ wsL_law := kr_26 _ (List.mem_of_getElem? (i := 12) rfl)
theorem kw_26_13 : Cond.instanceMethod yX3_look ∈ wsL_law := kr_26 _ (List.mem_of_getElem? (i := 13) rfl)
theorem kw_26_14 : Cond.selects RX3 yX3_look yX3_look ∈ wsL_law := kr_26 _ (List.mem_of_getElem? (i := 14) rfl)
theorem kw_26_15 : Cond.code yX3_look cX3_look 3 none ∈ wsL_law := kr_26 _ (List.mem_of_getElem? (i := 15) rfl)
theorem kw_26_16 : Cond.fieldLink RX3 39 "StreetTillTen$Street" "year" "I" ∈ wsL_law := kr_26 _ (List.mem_of_getElem? (i := 16) rfl)
theorem kw_26_17 : Cond.methodLink RX3 67 Lib.Math.abs.name ∈ wsL_law := kr_26 _ (List.mem_of_getElem? (i := 17) rfl)
theorem kw_26_18 : Cond.static Lib.Math.abs.name ∈ wsL_law := kr_26 _ (List.mem_of_getElem? (i := 18) rfl)
theorem kw_26_19 : Cond.initialized "java/lang/Math" ∈ wsL_law := kr_26 _ (List.mem_of_getElem? (i := 19) rfl)
theorem kw_26_20 : Cond.code Lib.Math.abs.name Lib.Math.abs.code 1 (some .int) ∈ wsL_law := kr_26 _ (List.mem_of_getElem? (i := 20) rfl)
theorem kw_26_21 : Cond.methodLink RX3 55 yX3_seatsAt ∈ wsL_law := kr_26 _ (List.mem_of_getElem? (i := 21) rfl)
theorem kw_26_22 : Cond.methodLink RX3 63 yX5_value ∈ wsL_law := kr_26 _ (List.mem_of_getElem? (i := 22) rfl)
theorem kw_26_23 : Cond.instanceMethod yX5_value ∈ wsL_law := kr_26 _ (List.mem_of_getElem? (i := 23) rfl)
theorem kw_27_0 : Cond.selects RX5 yX5_value yX5_value ∈ wsL_law := kr_27 _ (List.mem_of_getElem? (i := 0) rfl)
theorem kw_27_1 : Cond.code yX5_value cX5_value 7 (some .int) ∈ wsL_law := kr_27 _ (List.mem_of_getElem? (i := 1) rfl)
theorem kw_27_2 : Cond.methodLink RX5 36 Lib.Math.min.name ∈ wsL_law := kr_27 _ (List.mem_of_getElem? (i := 2) rfl)
theorem kw_27_3 : Cond.static Lib.Math.min.name ∈ wsL_law := kr_27 _ (List.mem_of_getElem? (i := 3) rfl)
theorem kw_27_4 : Cond.code Lib.Math.min.name Lib.Math.min.code 2 (some .int) ∈ wsL_law := kr_27 _ (List.mem_of_getElem? (i := 4) rfl)
theorem kw_27_5 : Cond.methodLink RX5 41 Lib.Math.max.name ∈ wsL_law := kr_27 _ (List.mem_of_getElem? (i := 5) rfl)
theorem kw_27_6 : Cond.static Lib.Math.max.name ∈ wsL_law := kr_27 _ (List.mem_of_getElem? (i := 6) rfl)
theorem kw_27_7 : Cond.code Lib.Math.max.name Lib.Math.max.code 2 (some .int) ∈ wsL_law := kr_27 _ (List.mem_of_getElem? (i := 7) rfl)
theorem kw_27_8 : Cond.methodLink RX5 28 yX5_turned ∈ wsL_law := kr_27 _ (List.mem_of_getElem? (i := 8) rfl)
theorem kw_27_9 : Cond.static yX5_turned ∈ wsL_law := kr_27 _ (List.mem_of_getElem? (i := 9) rfl)
theorem kw_27_10 : Cond.code yX5_turned cX5_turned 2 (some .int) ∈ wsL_law := kr_27 _ (List.mem_of_getElem? (i := 10) rfl)
theorem kw_27_11 : Cond.methodLink RX5 32 yX5_joined ∈ wsL_law := kr_27 _ (List.mem_of_getElem? (i := 11) rfl)
theorem kw_27_12 : Cond.static yX5_joined ∈ wsL_law := kr_27 _ (List.mem_of_getElem? (i := 12) rfl)
theorem kw_27_13 : Cond.code yX5_joined cX5_joined 3 (some .int) ∈ wsL_law := kr_27 _ (List.mem_of_getElem? (i := 13) rfl)
theorem kw_27_16 : Cond.instanceMethod yX6_feed ∈ wsL_law := kr_27 _ (List.mem_of_getElem? (i := 16) rfl)
theorem kw_27_17 : Cond.selects RX6 yX6_feed yX6_feed ∈ wsL_law := kr_27 _ (List.mem_of_getElem? (i := 17) rfl)
theorem kw_27_18 : Cond.code yX6_feed cX6_feed 2 (some .int) ∈ wsL_law := kr_27 _ (List.mem_of_getElem? (i := 18) rfl)
theorem kw_27_19 : Cond.fieldLink RX6 144 "StreetTillTen$Tape" "size" "I" ∈ wsL_law := kr_27 _ (List.mem_of_getElem? (i := 19) rfl)
theorem kw_27_21 : Cond.instanceMethod yX7_feed ∈ wsL_law := kr_27 _ (List.mem_of_getElem? (i := 21) rfl)
theorem kw_27_22 : Cond.selects RX7 yX7_feed yX7_feed ∈ wsL_law := kr_27 _ (List.mem_of_getElem? (i := 22) rfl)
theorem kw_27_23 : Cond.code yX7_feed cX7_feed 2 (some .int) ∈ wsL_law := kr_27 _ (List.mem_of_getElem? (i := 23) rfl)
theorem kw_28_0 : Cond.constantLong RX7 158 (255) ∈ wsL_law := kr_28 _ (List.mem_of_getElem? (i := 0) rfl)
theorem kw_28_1 : Cond.fieldLink RX7 160 "StreetTillTenModel" "taped" "I" ∈ wsL_law := kr_28 _ (List.mem_of_getElem? (i := 1) rfl)
theorem kw_28_3 : Cond.instanceMethod yX6_text ∈ wsL_law := kr_28 _ (List.mem_of_getElem? (i := 3) rfl)
theorem kw_28_4 : Cond.selects RX6 yX6_text yX6_text ∈ wsL_law := kr_28 _ (List.mem_of_getElem? (i := 4) rfl)
theorem kw_28_5 : Cond.code yX6_text cX6_text 2 (some .int) ∈ wsL_law := kr_28 _ (List.mem_of_getElem? (i := 5) rfl)
theorem kw_28_7 : Cond.instanceMethod yX7_text ∈ wsL_law := kr_28 _ (List.mem_of_getElem? (i := 7) rfl)
theorem kw_28_8 : Cond.selects RX7 yX7_text yX7_text ∈ wsL_law := kr_28 _ (List.mem_of_getElem? (i := 8) rfl)
theorem kw_28_9 : Cond.code yX7_text cX7_text 2 (some .int) ∈ wsL_law := kr_28 _ (List.mem_of_getElem? (i := 9) rfl)
theorem kw_28_11 : Cond.instanceMethod yX6_force ∈ wsL_law := kr_28 _ (List.mem_of_getElem? (i := 11) rfl)
theorem kw_28_12 : Cond.selects RX6 yX6_force yX6_force ∈ wsL_law := kr_28 _ (List.mem_of_getElem? (i := 12) rfl)
theorem kw_28_13 : Cond.code yX6_force cX6_force 3 (some .int) ∈ wsL_law := kr_28 _ (List.mem_of_getElem? (i := 13) rfl)
theorem kw_28_14 : Cond.fieldLink RX6 147 "StreetTillTen$Street" "rule" "LStreetTillTen$Text;" ∈ wsL_law := kr_28 _ (List.mem_of_getElem? (i := 14) rfl)
theorem kw_28_15 : Cond.fieldLink RX6 151 "StreetTillTen$Text" "place" "I" ∈ wsL_law := kr_28 _ (List.mem_of_getElem? (i := 15) rfl)
theorem kw_28_17 : Cond.instanceMethod yX7_force ∈ wsL_law := kr_28 _ (List.mem_of_getElem? (i := 17) rfl)
theorem kw_28_18 : Cond.selects RX7 yX7_force yX7_force ∈ wsL_law := kr_28 _ (List.mem_of_getElem? (i := 18) rfl)
theorem kw_28_19 : Cond.code yX7_force cX7_force 3 (some .int) ∈ wsL_law := kr_28 _ (List.mem_of_getElem? (i := 19) rfl)
theorem kw_28_21 : Cond.instanceMethod yX6_asks ∈ wsL_law := kr_28 _ (List.mem_of_getElem? (i := 21) rfl)
theorem kw_28_22 : Cond.selects RX6 yX6_asks yX6_asks ∈ wsL_law := kr_28 _ (List.mem_of_getElem? (i := 22) rfl)
theorem kw_28_23 : Cond.code yX6_asks cX6_asks 4 (some .int) ∈ wsL_law := kr_28 _ (List.mem_of_getElem? (i := 23) rfl)
theorem kw_29_0 : Cond.methodLink RX6 154 yX6_isEither ∈ wsL_law := kr_29 _ (List.mem_of_getElem? (i := 0) rfl)
theorem kw_29_1 : Cond.static yX6_isEither ∈ wsL_law := kr_29 _ (List.mem_of_getElem? (i := 1) rfl)
theorem kw_29_2 : Cond.code yX6_isEither cX6_isEither 1 (some .boolean) ∈ wsL_law := kr_29 _ (List.mem_of_getElem? (i := 2) rfl)
theorem kw_29_3 : Cond.methodLink RX6 157 yX3_meets ∈ wsL_law := kr_29 _ (List.mem_of_getElem? (i := 3) rfl)
theorem kw_29_4 : Cond.instanceMethod yX3_meets ∈ wsL_law := kr_29 _ (List.mem_of_getElem? (i := 4) rfl)
theorem kw_29_5 : Cond.selects RX3 yX3_meets yX3_meets ∈ wsL_law := kr_29 _ (List.mem_of_getElem? (i := 5) rfl)
theorem kw_29_6 : Cond.code yX3_meets cX3_meets 4 (some .int) ∈ wsL_law := kr_29 _ (List.mem_of_getElem? (i := 6) rfl)
theorem kw_29_7 : Cond.methodLink RX6 160 yX3_forgets ∈ wsL_law := kr_29 _ (List.mem_of_getElem? (i := 7) rfl)
theorem kw_29_8 : Cond.instanceMethod yX3_forgets ∈ wsL_law := kr_29 _ (List.mem_of_getElem? (i := 8) rfl)
theorem kw_29_9 : Cond.selects RX3 yX3_forgets yX3_forgets ∈ wsL_law := kr_29 _ (List.mem_of_getElem? (i := 9) rfl)
theorem kw_29_10 : Cond.code yX3_forgets cX3_forgets 4 (some .int) ∈ wsL_law := kr_29 _ (List.mem_of_getElem? (i := 10) rfl)
theorem kw_29_12 : Cond.instanceMethod yX7_asks ∈ wsL_law := kr_29 _ (List.mem_of_getElem? (i := 12) rfl)
theorem kw_29_13 : Cond.selects RX7 yX7_asks yX7_asks ∈ wsL_law := kr_29 _ (List.mem_of_getElem? (i := 13) rfl)
theorem kw_29_14 : Cond.code yX7_asks cX7_asks 4 (some .int) ∈ wsL_law := kr_29 _ (List.mem_of_getElem? (i := 14) rfl)
theorem kw_29_15 : Cond.methodLink RX7 370 yX7_meetsOf ∈ wsL_law := kr_29 _ (List.mem_of_getElem? (i := 15) rfl)
theorem kw_29_16 : Cond.instanceMethod yX7_meetsOf ∈ wsL_law := kr_29 _ (List.mem_of_getElem? (i := 16) rfl)
theorem kw_29_17 : Cond.selects RX7 yX7_meetsOf yX7_meetsOf ∈ wsL_law := kr_29 _ (List.mem_of_getElem? (i := 17) rfl)
theorem kw_29_18 : Cond.code yX7_meetsOf cX7_meetsOf 5 (some .int) ∈ wsL_law := kr_29 _ (List.mem_of_getElem? (i := 18) rfl)
theorem kw_29_19 : Cond.methodLink RX7 373 yX7_fadesOf ∈ wsL_law := kr_29 _ (List.mem_of_getElem? (i := 19) rfl)
theorem kw_29_20 : Cond.instanceMethod yX7_fadesOf ∈ wsL_law := kr_29 _ (List.mem_of_getElem? (i := 20) rfl)
theorem kw_29_21 : Cond.selects RX7 yX7_fadesOf yX7_fadesOf ∈ wsL_law := kr_29 _ (List.mem_of_getElem? (i := 21) rfl)
theorem kw_29_22 : Cond.code yX7_fadesOf cX7_fadesOf 5 (some .int) ∈ wsL_law := kr_29 _ (List.mem_of_getElem? (i := 22) rfl)
theorem kw_30_0 : Cond.instanceMethod yX6_feast ∈ wsL_law := kr_30 _ (List.mem_of_getElem? (i := 0) rfl)
theorem kw_30_1 : Cond.selects RX6 yX6_feast yX6_feast ∈ wsL_law := kr_30 _ (List.mem_of_getElem? (i := 1) rfl)
theorem kw_30_2 : Cond.code yX6_feast cX6_feast 1 (some .int) ∈ wsL_law := kr_30 _ (List.mem_of_getElem? (i := 2) rfl)
theorem kw_30_3 : Cond.methodLink RX6 163 yX3_holdFeast ∈ wsL_law := kr_30 _ (List.mem_of_getElem? (i := 3) rfl)
theorem kw_30_4 : Cond.instanceMethod yX3_holdFeast ∈ wsL_law := kr_30 _ (List.mem_of_getElem? (i := 4) rfl)
theorem kw_30_5 : Cond.selects RX3 yX3_holdFeast yX3_holdFeast ∈ wsL_law := kr_30 _ (List.mem_of_getElem? (i := 5) rfl)
theorem kw_30_6 : Cond.code yX3_holdFeast cX3_holdFeast 4 none ∈ wsL_law := kr_30 _ (List.mem_of_getElem? (i := 6) rfl)
theorem kw_30_7 : Cond.methodLink RX3 76 Lib.Math.min.name ∈ wsL_law := kr_30 _ (List.mem_of_getElem? (i := 7) rfl)
theorem kw_30_8 : Cond.methodLink RX3 72 yX3_meets ∈ wsL_law := kr_30 _ (List.mem_of_getElem? (i := 8) rfl)
theorem kw_30_9 : Cond.methodLink RX3 79 yX3_tie ∈ wsL_law := kr_30 _ (List.mem_of_getElem? (i := 9) rfl)
theorem kw_30_10 : Cond.methodLink RX6 166 yX3_friends ∈ wsL_law := kr_30 _ (List.mem_of_getElem? (i := 10) rfl)
theorem kw_30_11 : Cond.instanceMethod yX3_friends ∈ wsL_law := kr_30 _ (List.mem_of_getElem? (i := 11) rfl)
theorem kw_30_12 : Cond.selects RX3 yX3_friends yX3_friends ∈ wsL_law := kr_30 _ (List.mem_of_getElem? (i := 12) rfl)
theorem kw_30_13 : Cond.code yX3_friends cX3_friends 4 (some .int) ∈ wsL_law := kr_30 _ (List.mem_of_getElem? (i := 13) rfl)
theorem kw_30_15 : Cond.instanceMethod yX7_feast ∈ wsL_law := kr_30 _ (List.mem_of_getElem? (i := 15) rfl)
theorem kw_30_16 : Cond.selects RX7 yX7_feast yX7_feast ∈ wsL_law := kr_30 _ (List.mem_of_getElem? (i := 16) rfl)
theorem kw_30_17 : Cond.code yX7_feast cX7_feast 1 (some .int) ∈ wsL_law := kr_30 _ (List.mem_of_getElem? (i := 17) rfl)
theorem kw_30_18 : Cond.methodLink RX7 376 yX7_feasts ∈ wsL_law := kr_30 _ (List.mem_of_getElem? (i := 18) rfl)
theorem kw_30_19 : Cond.instanceMethod yX7_feasts ∈ wsL_law := kr_30 _ (List.mem_of_getElem? (i := 19) rfl)
theorem kw_30_20 : Cond.selects RX7 yX7_feasts yX7_feasts ∈ wsL_law := kr_30 _ (List.mem_of_getElem? (i := 20) rfl)
theorem kw_30_21 : Cond.code yX7_feasts cX7_feasts 4 none ∈ wsL_law := kr_30 _ (List.mem_of_getElem? (i := 21) rfl)
theorem kw_30_22 : Cond.methodLink RX7 379 yX7_friends ∈ wsL_law := kr_30 _ (List.mem_of_getElem? (i := 22) rfl)
theorem kw_30_23 : Cond.instanceMethod yX7_friends ∈ wsL_law := kr_30 _ (List.mem_of_getElem? (i := 23) rfl)
theorem kw_31_0 : Cond.selects RX7 yX7_friends yX7_friends ∈ wsL_law := kr_31 _ (List.mem_of_getElem? (i := 0) rfl)
theorem kw_31_1 : Cond.code yX7_friends cX7_friends 4 (some .int) ∈ wsL_law := kr_31 _ (List.mem_of_getElem? (i := 1) rfl)
theorem kw_31_3 : Cond.instanceMethod yX6_year ∈ wsL_law := kr_31 _ (List.mem_of_getElem? (i := 3) rfl)
theorem kw_31_4 : Cond.selects RX6 yX6_year yX6_year ∈ wsL_law := kr_31 _ (List.mem_of_getElem? (i := 4) rfl)
theorem kw_31_5 : Cond.code yX6_year cX6_year 1 (some .int) ∈ wsL_law := kr_31 _ (List.mem_of_getElem? (i := 5) rfl)
theorem kw_31_6 : Cond.methodLink RX6 169 yX3_endYear ∈ wsL_law := kr_31 _ (List.mem_of_getElem? (i := 6) rfl)
theorem kw_31_7 : Cond.instanceMethod yX3_endYear ∈ wsL_law := kr_31 _ (List.mem_of_getElem? (i := 7) rfl)
theorem kw_31_8 : Cond.selects RX3 yX3_endYear yX3_endYear ∈ wsL_law := kr_31 _ (List.mem_of_getElem? (i := 8) rfl)
theorem kw_31_9 : Cond.code yX3_endYear cX3_endYear 4 none ∈ wsL_law := kr_31 _ (List.mem_of_getElem? (i := 9) rfl)
theorem kw_31_10 : Cond.methodLink RX3 86 Lib.Math.max.name ∈ wsL_law := kr_31 _ (List.mem_of_getElem? (i := 10) rfl)
theorem kw_31_11 : Cond.methodLink RX3 83 yX3_forgets ∈ wsL_law := kr_31 _ (List.mem_of_getElem? (i := 11) rfl)
theorem kw_31_13 : Cond.instanceMethod yX7_year ∈ wsL_law := kr_31 _ (List.mem_of_getElem? (i := 13) rfl)
theorem kw_31_14 : Cond.selects RX7 yX7_year yX7_year ∈ wsL_law := kr_31 _ (List.mem_of_getElem? (i := 14) rfl)
theorem kw_31_15 : Cond.code yX7_year cX7_year 1 (some .int) ∈ wsL_law := kr_31 _ (List.mem_of_getElem? (i := 15) rfl)
theorem kw_31_16 : Cond.methodLink RX7 382 yX7_fades ∈ wsL_law := kr_31 _ (List.mem_of_getElem? (i := 16) rfl)
theorem kw_31_17 : Cond.instanceMethod yX7_fades ∈ wsL_law := kr_31 _ (List.mem_of_getElem? (i := 17) rfl)
theorem kw_31_18 : Cond.selects RX7 yX7_fades yX7_fades ∈ wsL_law := kr_31 _ (List.mem_of_getElem? (i := 18) rfl)
theorem kw_31_19 : Cond.code yX7_fades cX7_fades 4 none ∈ wsL_law := kr_31 _ (List.mem_of_getElem? (i := 19) rfl)
theorem kw_31_21 : Cond.instanceMethod yX6_street ∈ wsL_law := kr_31 _ (List.mem_of_getElem? (i := 21) rfl)
theorem kw_31_22 : Cond.selects RX6 yX6_street yX6_street ∈ wsL_law := kr_31 _ (List.mem_of_getElem? (i := 22) rfl)
theorem kw_31_23 : Cond.code yX6_street cX6_street 2 (some .int) ∈ wsL_law := kr_31 _ (List.mem_of_getElem? (i := 23) rfl)
theorem kw_32_0 : Cond.methodLink RX6 172 yX6_figure ∈ wsL_law := kr_32 _ (List.mem_of_getElem? (i := 0) rfl)
theorem kw_32_1 : Cond.instanceMethod yX6_figure ∈ wsL_law := kr_32 _ (List.mem_of_getElem? (i := 1) rfl)
theorem kw_32_2 : Cond.selects RX6 yX6_figure yX6_figure ∈ wsL_law := kr_32 _ (List.mem_of_getElem? (i := 2) rfl)
theorem kw_32_3 : Cond.code yX6_figure cX6_figure 3 (some .int) ∈ wsL_law := kr_32 _ (List.mem_of_getElem? (i := 3) rfl)
theorem kw_32_4 : Cond.methodLink RX6 176 yX0_see ∈ wsL_law := kr_32 _ (List.mem_of_getElem? (i := 4) rfl)
theorem kw_32_5 : Cond.instanceMethod yX0_see ∈ wsL_law := kr_32 _ (List.mem_of_getElem? (i := 5) rfl)
theorem kw_32_6 : Cond.selects RX0 yX0_see yX0_see ∈ wsL_law := kr_32 _ (List.mem_of_getElem? (i := 6) rfl)
theorem kw_32_7 : Cond.code yX0_see cX0_see 4 none ∈ wsL_law := kr_32 _ (List.mem_of_getElem? (i := 7) rfl)
theorem kw_32_8 : Cond.fieldLink RX0 15 "StreetTillTen$Street" "count" "I" ∈ wsL_law := kr_32 _ (List.mem_of_getElem? (i := 8) rfl)
theorem kw_32_9 : Cond.fieldLink RX0 21 "StreetTillTen$Circle" "count" "I" ∈ wsL_law := kr_32 _ (List.mem_of_getElem? (i := 9) rfl)
theorem kw_32_10 : Cond.methodLink RX0 22 yX3_knows ∈ wsL_law := kr_32 _ (List.mem_of_getElem? (i := 10) rfl)
theorem kw_32_11 : Cond.methodLink RX6 201 yX0_everyone ∈ wsL_law := kr_32 _ (List.mem_of_getElem? (i := 11) rfl)
theorem kw_32_12 : Cond.instanceMethod yX0_everyone ∈ wsL_law := kr_32 _ (List.mem_of_getElem? (i := 12) rfl)
theorem kw_32_13 : Cond.selects RX0 yX0_everyone yX0_everyone ∈ wsL_law := kr_32 _ (List.mem_of_getElem? (i := 13) rfl)
theorem kw_32_14 : Cond.code yX0_everyone cX0_everyone 1 (some .int) ∈ wsL_law := kr_32 _ (List.mem_of_getElem? (i := 14) rfl)
theorem kw_32_15 : Cond.methodLink RX6 204 yX0_companies ∈ wsL_law := kr_32 _ (List.mem_of_getElem? (i := 15) rfl)
theorem kw_32_16 : Cond.instanceMethod yX0_companies ∈ wsL_law := kr_32 _ (List.mem_of_getElem? (i := 16) rfl)
theorem kw_32_17 : Cond.selects RX0 yX0_companies yX0_companies ∈ wsL_law := kr_32 _ (List.mem_of_getElem? (i := 17) rfl)
theorem kw_32_18 : Cond.code yX0_companies cX0_companies 5 (some .int) ∈ wsL_law := kr_32 _ (List.mem_of_getElem? (i := 18) rfl)
theorem kw_32_19 : Cond.methodLink RX0 26 yX0_companyOf ∈ wsL_law := kr_32 _ (List.mem_of_getElem? (i := 19) rfl)
theorem kw_32_20 : Cond.instanceMethod yX0_companyOf ∈ wsL_law := kr_32 _ (List.mem_of_getElem? (i := 20) rfl)
theorem kw_32_21 : Cond.selects RX0 yX0_companyOf yX0_companyOf ∈ wsL_law := kr_32 _ (List.mem_of_getElem? (i := 21) rfl)
theorem kw_32_22 : Cond.code yX0_companyOf cX0_companyOf 5 (some .int) ∈ wsL_law := kr_32 _ (List.mem_of_getElem? (i := 22) rfl)
theorem kw_32_23 : Cond.methodLink RX0 45 yX0_further ∈ wsL_law := kr_32 _ (List.mem_of_getElem? (i := 23) rfl)
theorem kw_33_0 : Cond.instanceMethod yX0_further ∈ wsL_law := kr_33 _ (List.mem_of_getElem? (i := 0) rfl)
theorem kw_33_1 : Cond.selects RX0 yX0_further yX0_further ∈ wsL_law := kr_33 _ (List.mem_of_getElem? (i := 1) rfl)
theorem kw_33_2 : Cond.code yX0_further cX0_further 4 (some .int) ∈ wsL_law := kr_33 _ (List.mem_of_getElem? (i := 2) rfl)
theorem kw_33_3 : Cond.methodLink RX6 286 yX0_largestCompany ∈ wsL_law := kr_33 _ (List.mem_of_getElem? (i := 3) rfl)
theorem kw_33_4 : Cond.instanceMethod yX0_largestCompany ∈ wsL_law := kr_33 _ (List.mem_of_getElem? (i := 4) rfl)
theorem kw_33_5 : Cond.selects RX0 yX0_largestCompany yX0_largestCompany ∈ wsL_law := kr_33 _ (List.mem_of_getElem? (i := 5) rfl)
theorem kw_33_6 : Cond.code yX0_largestCompany cX0_largestCompany 3 (some .int) ∈ wsL_law := kr_33 _ (List.mem_of_getElem? (i := 6) rfl)
theorem kw_33_7 : Cond.methodLink RX0 40 Lib.Math.max.name ∈ wsL_law := kr_33 _ (List.mem_of_getElem? (i := 7) rfl)
theorem kw_33_8 : Cond.methodLink RX0 30 yX0_everyone ∈ wsL_law := kr_33 _ (List.mem_of_getElem? (i := 8) rfl)
theorem kw_33_9 : Cond.methodLink RX0 34 yJ6_bitCount_0f7a4 ∈ wsL_law := kr_33 _ (List.mem_of_getElem? (i := 9) rfl)
theorem kw_33_10 : Cond.static yJ6_bitCount_0f7a4 ∈ wsL_law := kr_33 _ (List.mem_of_getElem? (i := 10) rfl)
theorem kw_33_11 : Cond.initialized RJ6 ∈ wsL_law := kr_33 _ (List.mem_of_getElem? (i := 11) rfl)
theorem kw_33_12 : Cond.code yJ6_bitCount_0f7a4 cJ6_bitCount_0f7a4 1 (some .int) ∈ wsL_law := kr_33 _ (List.mem_of_getElem? (i := 12) rfl)
theorem kw_33_13 : Cond.constant RJ6 265 (1431655765) ∈ wsL_law := kr_33 _ (List.mem_of_getElem? (i := 13) rfl)
theorem kw_33_14 : Cond.constant RJ6 266 (858993459) ∈ wsL_law := kr_33 _ (List.mem_of_getElem? (i := 14) rfl)
theorem kw_33_15 : Cond.constant RJ6 267 (252645135) ∈ wsL_law := kr_33 _ (List.mem_of_getElem? (i := 15) rfl)
theorem kw_33_16 : Cond.methodLink RX6 289 yX3_allStrength ∈ wsL_law := kr_33 _ (List.mem_of_getElem? (i := 16) rfl)
theorem kw_33_17 : Cond.instanceMethod yX3_allStrength ∈ wsL_law := kr_33 _ (List.mem_of_getElem? (i := 17) rfl)
theorem kw_33_18 : Cond.selects RX3 yX3_allStrength yX3_allStrength ∈ wsL_law := kr_33 _ (List.mem_of_getElem? (i := 18) rfl)
theorem kw_33_19 : Cond.code yX3_allStrength cX3_allStrength 4 (some .int) ∈ wsL_law := kr_33 _ (List.mem_of_getElem? (i := 19) rfl)
theorem kw_33_20 : Cond.methodLink RX6 207 yX0_longestWay ∈ wsL_law := kr_33 _ (List.mem_of_getElem? (i := 20) rfl)
theorem kw_33_21 : Cond.instanceMethod yX0_longestWay ∈ wsL_law := kr_33 _ (List.mem_of_getElem? (i := 21) rfl)
theorem kw_33_22 : Cond.selects RX0 yX0_longestWay yX0_longestWay ∈ wsL_law := kr_33 _ (List.mem_of_getElem? (i := 22) rfl)
theorem kw_33_23 : Cond.code yX0_longestWay cX0_longestWay 6 (some .int) ∈ wsL_law := kr_33 _ (List.mem_of_getElem? (i := 23) rfl)
theorem kw_34_0 : Cond.methodLink RX0 48 yX0_distance ∈ wsL_law := kr_34 _ (List.mem_of_getElem? (i := 0) rfl)
theorem kw_34_1 : Cond.instanceMethod yX0_distance ∈ wsL_law := kr_34 _ (List.mem_of_getElem? (i := 1) rfl)
theorem kw_34_2 : Cond.selects RX0 yX0_distance yX0_distance ∈ wsL_law := kr_34 _ (List.mem_of_getElem? (i := 2) rfl)
theorem kw_34_3 : Cond.code yX0_distance cX0_distance 5 (some .int) ∈ wsL_law := kr_34 _ (List.mem_of_getElem? (i := 3) rfl)
theorem kw_34_4 : Cond.methodLink RX6 292 yX3_quietTable ∈ wsL_law := kr_34 _ (List.mem_of_getElem? (i := 4) rfl)
theorem kw_34_5 : Cond.instanceMethod yX3_quietTable ∈ wsL_law := kr_34 _ (List.mem_of_getElem? (i := 5) rfl)
theorem kw_34_6 : Cond.selects RX3 yX3_quietTable yX3_quietTable ∈ wsL_law := kr_34 _ (List.mem_of_getElem? (i := 6) rfl)
theorem kw_34_7 : Cond.code yX3_quietTable cX3_quietTable 5 (some .int) ∈ wsL_law := kr_34 _ (List.mem_of_getElem? (i := 7) rfl)
theorem kw_34_8 : Cond.methodLink RX3 99 yX3_dinAt ∈ wsL_law := kr_34 _ (List.mem_of_getElem? (i := 8) rfl)
theorem kw_34_9 : Cond.instanceMethod yX3_dinAt ∈ wsL_law := kr_34 _ (List.mem_of_getElem? (i := 9) rfl)
theorem kw_34_10 : Cond.selects RX3 yX3_dinAt yX3_dinAt ∈ wsL_law := kr_34 _ (List.mem_of_getElem? (i := 10) rfl)
theorem kw_34_11 : Cond.code yX3_dinAt cX3_dinAt 4 (some .int) ∈ wsL_law := kr_34 _ (List.mem_of_getElem? (i := 11) rfl)
theorem kw_34_12 : Cond.methodLink RX3 102 yX3_sounds ∈ wsL_law := kr_34 _ (List.mem_of_getElem? (i := 12) rfl)
theorem kw_34_14 : Cond.instanceMethod yX7_street ∈ wsL_law := kr_34 _ (List.mem_of_getElem? (i := 14) rfl)
theorem kw_34_15 : Cond.selects RX7 yX7_street yX7_street ∈ wsL_law := kr_34 _ (List.mem_of_getElem? (i := 15) rfl)
theorem kw_34_16 : Cond.code yX7_street cX7_street 2 (some .int) ∈ wsL_law := kr_34 _ (List.mem_of_getElem? (i := 16) rfl)
theorem kw_34_17 : Cond.methodLink RX7 400 yX7_quietest ∈ wsL_law := kr_34 _ (List.mem_of_getElem? (i := 17) rfl)
theorem kw_34_18 : Cond.instanceMethod yX7_quietest ∈ wsL_law := kr_34 _ (List.mem_of_getElem? (i := 18) rfl)
theorem kw_34_19 : Cond.selects RX7 yX7_quietest yX7_quietest ∈ wsL_law := kr_34 _ (List.mem_of_getElem? (i := 19) rfl)
theorem kw_34_20 : Cond.code yX7_quietest cX7_quietest 7 (some .int) ∈ wsL_law := kr_34 _ (List.mem_of_getElem? (i := 20) rfl)
theorem kw_34_21 : Cond.methodLink RX7 403 yX7_tellsOf ∈ wsL_law := kr_34 _ (List.mem_of_getElem? (i := 21) rfl)
theorem kw_34_22 : Cond.instanceMethod yX7_tellsOf ∈ wsL_law := kr_34 _ (List.mem_of_getElem? (i := 22) rfl)
theorem kw_34_23 : Cond.selects RX7 yX7_tellsOf yX7_tellsOf ∈ wsL_law := kr_34 _ (List.mem_of_getElem? (i := 23) rfl)
theorem kw_35_0 : Cond.code yX7_tellsOf cX7_tellsOf 2 (some .int) ∈ wsL_law := kr_35 _ (List.mem_of_getElem? (i := 0) rfl)
theorem kw_35_1 : Cond.methodLink RX7 385 yX7_waysAll ∈ wsL_law := kr_35 _ (List.mem_of_getElem? (i := 1) rfl)
theorem kw_35_2 : Cond.instanceMethod yX7_waysAll ∈ wsL_law := kr_35 _ (List.mem_of_getElem? (i := 2) rfl)
theorem kw_35_3 : Cond.selects RX7 yX7_waysAll yX7_waysAll ∈ wsL_law := kr_35 _ (List.mem_of_getElem? (i := 3) rfl)
theorem kw_35_4 : Cond.code yX7_waysAll cX7_waysAll 7 none ∈ wsL_law := kr_35 _ (List.mem_of_getElem? (i := 4) rfl)
theorem kw_35_5 : Cond.methodLink RX7 388 yX7_companies ∈ wsL_law := kr_35 _ (List.mem_of_getElem? (i := 5) rfl)
theorem kw_35_6 : Cond.instanceMethod yX7_companies ∈ wsL_law := kr_35 _ (List.mem_of_getElem? (i := 6) rfl)
theorem kw_35_7 : Cond.selects RX7 yX7_companies yX7_companies ∈ wsL_law := kr_35 _ (List.mem_of_getElem? (i := 7) rfl)
theorem kw_35_8 : Cond.code yX7_companies cX7_companies 5 (some .int) ∈ wsL_law := kr_35 _ (List.mem_of_getElem? (i := 8) rfl)
theorem kw_35_9 : Cond.methodLink RX7 391 yX7_largest ∈ wsL_law := kr_35 _ (List.mem_of_getElem? (i := 9) rfl)
theorem kw_35_10 : Cond.instanceMethod yX7_largest ∈ wsL_law := kr_35 _ (List.mem_of_getElem? (i := 10) rfl)
theorem kw_35_11 : Cond.selects RX7 yX7_largest yX7_largest ∈ wsL_law := kr_35 _ (List.mem_of_getElem? (i := 11) rfl)
theorem kw_35_12 : Cond.code yX7_largest cX7_largest 5 (some .int) ∈ wsL_law := kr_35 _ (List.mem_of_getElem? (i := 12) rfl)
theorem kw_35_13 : Cond.methodLink RX7 394 yX7_strengthAll ∈ wsL_law := kr_35 _ (List.mem_of_getElem? (i := 13) rfl)
theorem kw_35_14 : Cond.instanceMethod yX7_strengthAll ∈ wsL_law := kr_35 _ (List.mem_of_getElem? (i := 14) rfl)
theorem kw_35_15 : Cond.selects RX7 yX7_strengthAll yX7_strengthAll ∈ wsL_law := kr_35 _ (List.mem_of_getElem? (i := 15) rfl)
theorem kw_35_16 : Cond.code yX7_strengthAll cX7_strengthAll 4 (some .int) ∈ wsL_law := kr_35 _ (List.mem_of_getElem? (i := 16) rfl)
theorem kw_35_17 : Cond.methodLink RX7 397 yX7_longest ∈ wsL_law := kr_35 _ (List.mem_of_getElem? (i := 17) rfl)
theorem kw_35_18 : Cond.instanceMethod yX7_longest ∈ wsL_law := kr_35 _ (List.mem_of_getElem? (i := 18) rfl)
theorem kw_35_19 : Cond.selects RX7 yX7_longest yX7_longest ∈ wsL_law := kr_35 _ (List.mem_of_getElem? (i := 19) rfl)
theorem kw_35_20 : Cond.code yX7_longest cX7_longest 6 (some .int) ∈ wsL_law := kr_35 _ (List.mem_of_getElem? (i := 20) rfl)
theorem kw_35_22 : Cond.instanceMethod yX6_way ∈ wsL_law := kr_35 _ (List.mem_of_getElem? (i := 22) rfl)
theorem kw_35_23 : Cond.selects RX6 yX6_way yX6_way ∈ wsL_law := kr_35 _ (List.mem_of_getElem? (i := 23) rfl)
theorem kw_36_0 : Cond.code yX6_way cX6_way 3 (some .int) ∈ wsL_law := kr_36 _ (List.mem_of_getElem? (i := 0) rfl)
theorem kw_36_1 : Cond.methodLink RX6 180 yX0_distance ∈ wsL_law := kr_36 _ (List.mem_of_getElem? (i := 1) rfl)
theorem kw_36_3 : Cond.instanceMethod yX7_way ∈ wsL_law := kr_36 _ (List.mem_of_getElem? (i := 3) rfl)
theorem kw_36_4 : Cond.selects RX7 yX7_way yX7_way ∈ wsL_law := kr_36 _ (List.mem_of_getElem? (i := 4) rfl)
theorem kw_36_5 : Cond.code yX7_way cX7_way 3 (some .int) ∈ wsL_law := kr_36 _ (List.mem_of_getElem? (i := 5) rfl)
theorem kw_36_7 : Cond.instanceMethod yX6_run ∈ wsL_law := kr_36 _ (List.mem_of_getElem? (i := 7) rfl)
theorem kw_36_8 : Cond.selects RX6 yX6_run yX6_run ∈ wsL_law := kr_36 _ (List.mem_of_getElem? (i := 8) rfl)
theorem kw_36_9 : Cond.code yX6_run cX6_run 3 (some .int) ∈ wsL_law := kr_36 _ (List.mem_of_getElem? (i := 9) rfl)
theorem kw_36_10 : Cond.methodLink RX6 183 yX6_isYears ∈ wsL_law := kr_36 _ (List.mem_of_getElem? (i := 10) rfl)
theorem kw_36_11 : Cond.static yX6_isYears ∈ wsL_law := kr_36 _ (List.mem_of_getElem? (i := 11) rfl)
theorem kw_36_12 : Cond.code yX6_isYears cX6_isYears 1 (some .boolean) ∈ wsL_law := kr_36 _ (List.mem_of_getElem? (i := 12) rfl)
theorem kw_36_13 : Cond.methodLink RX6 186 yX3_become ∈ wsL_law := kr_36 _ (List.mem_of_getElem? (i := 13) rfl)
theorem kw_36_14 : Cond.instanceMethod yX3_become ∈ wsL_law := kr_36 _ (List.mem_of_getElem? (i := 14) rfl)
theorem kw_36_15 : Cond.selects RX3 yX3_become yX3_become ∈ wsL_law := kr_36 _ (List.mem_of_getElem? (i := 15) rfl)
theorem kw_36_16 : Cond.code yX3_become cX3_become 3 none ∈ wsL_law := kr_36 _ (List.mem_of_getElem? (i := 16) rfl)
theorem kw_36_17 : Cond.methodLink RX3 45 arraycopyName ∈ wsL_law := kr_36 _ (List.mem_of_getElem? (i := 17) rfl)
theorem kw_36_18 : Cond.native arraycopyName ∈ wsL_law := kr_36 _ (List.mem_of_getElem? (i := 18) rfl)
theorem kw_36_19 : Cond.static arraycopyName ∈ wsL_law := kr_36 _ (List.mem_of_getElem? (i := 19) rfl)
theorem kw_36_20 : Cond.initialized "java/lang/System" ∈ wsL_law := kr_36 _ (List.mem_of_getElem? (i := 20) rfl)
theorem kw_36_21 : Cond.methodLink RX6 189 yX3_pass ∈ wsL_law := kr_36 _ (List.mem_of_getElem? (i := 21) rfl)
theorem kw_36_22 : Cond.instanceMethod yX3_pass ∈ wsL_law := kr_36 _ (List.mem_of_getElem? (i := 22) rfl)
theorem kw_36_23 : Cond.selects RX3 yX3_pass yX3_pass ∈ wsL_law := kr_36 _ (List.mem_of_getElem? (i := 23) rfl)
theorem kw_37_0 : Cond.code yX3_pass cX3_pass 3 (some .int) ∈ wsL_law := kr_37 _ (List.mem_of_getElem? (i := 0) rfl)
theorem kw_37_1 : Cond.methodLink RX3 89 yX3_holdFeast ∈ wsL_law := kr_37 _ (List.mem_of_getElem? (i := 1) rfl)
theorem kw_37_2 : Cond.methodLink RX3 92 yX3_endYear ∈ wsL_law := kr_37 _ (List.mem_of_getElem? (i := 2) rfl)
theorem kw_37_3 : Cond.methodLink RX3 95 yX3_friends ∈ wsL_law := kr_37 _ (List.mem_of_getElem? (i := 3) rfl)
theorem kw_37_5 : Cond.instanceMethod yX7_run ∈ wsL_law := kr_37 _ (List.mem_of_getElem? (i := 5) rfl)
theorem kw_37_6 : Cond.selects RX7 yX7_run yX7_run ∈ wsL_law := kr_37 _ (List.mem_of_getElem? (i := 6) rfl)
theorem kw_37_7 : Cond.code yX7_run cX7_run 4 (some .int) ∈ wsL_law := kr_37 _ (List.mem_of_getElem? (i := 7) rfl)
theorem kw_37_8 : Cond.constantLong RX7 409 (20) ∈ wsL_law := kr_37 _ (List.mem_of_getElem? (i := 8) rfl)
theorem kw_37_9 : Cond.constantLong RX7 411 (4) ∈ wsL_law := kr_37 _ (List.mem_of_getElem? (i := 9) rfl)
theorem kw_37_10 : Cond.methodLink RX7 413 yX7_laysAside ∈ wsL_law := kr_37 _ (List.mem_of_getElem? (i := 10) rfl)
theorem kw_37_11 : Cond.instanceMethod yX7_laysAside ∈ wsL_law := kr_37 _ (List.mem_of_getElem? (i := 11) rfl)
theorem kw_37_12 : Cond.selects RX7 yX7_laysAside yX7_laysAside ∈ wsL_law := kr_37 _ (List.mem_of_getElem? (i := 12) rfl)
theorem kw_37_13 : Cond.code yX7_laysAside cX7_laysAside 2 none ∈ wsL_law := kr_37 _ (List.mem_of_getElem? (i := 13) rfl)
theorem kw_37_14 : Cond.fieldLink RX7 406 "StreetTillTenModel" "yearWas" "I" ∈ wsL_law := kr_37 _ (List.mem_of_getElem? (i := 14) rfl)
theorem kw_37_15 : Cond.methodLink RX7 416 yX7_lives ∈ wsL_law := kr_37 _ (List.mem_of_getElem? (i := 15) rfl)
theorem kw_37_16 : Cond.instanceMethod yX7_lives ∈ wsL_law := kr_37 _ (List.mem_of_getElem? (i := 16) rfl)
theorem kw_37_17 : Cond.selects RX7 yX7_lives yX7_lives ∈ wsL_law := kr_37 _ (List.mem_of_getElem? (i := 17) rfl)
theorem kw_37_18 : Cond.code yX7_lives cX7_lives 3 none ∈ wsL_law := kr_37 _ (List.mem_of_getElem? (i := 18) rfl)
theorem kw_37_19 : Cond.methodLink RX7 420 yX7_laysBack ∈ wsL_law := kr_37 _ (List.mem_of_getElem? (i := 19) rfl)
theorem kw_37_20 : Cond.instanceMethod yX7_laysBack ∈ wsL_law := kr_37 _ (List.mem_of_getElem? (i := 20) rfl)
theorem kw_37_21 : Cond.selects RX7 yX7_laysBack yX7_laysBack ∈ wsL_law := kr_37 _ (List.mem_of_getElem? (i := 21) rfl)
theorem kw_37_22 : Cond.code yX7_laysBack cX7_laysBack 2 none ∈ wsL_law := kr_37 _ (List.mem_of_getElem? (i := 22) rfl)
theorem kw_38_0 : Cond.instanceMethod yX6_takes ∈ wsL_law := kr_38 _ (List.mem_of_getElem? (i := 0) rfl)
theorem kw_38_1 : Cond.selects RX6 yX6_takes yX6_takes ∈ wsL_law := kr_38 _ (List.mem_of_getElem? (i := 1) rfl)
theorem kw_38_2 : Cond.code yX6_takes cX6_takes 4 (some .int) ∈ wsL_law := kr_38 _ (List.mem_of_getElem? (i := 2) rfl)
theorem kw_38_3 : Cond.methodLink RX6 192 yX6_isFriends ∈ wsL_law := kr_38 _ (List.mem_of_getElem? (i := 3) rfl)
theorem kw_38_4 : Cond.static yX6_isFriends ∈ wsL_law := kr_38 _ (List.mem_of_getElem? (i := 4) rfl)
theorem kw_38_5 : Cond.code yX6_isFriends cX6_isFriends 1 (some .boolean) ∈ wsL_law := kr_38 _ (List.mem_of_getElem? (i := 5) rfl)
theorem kw_38_7 : Cond.instanceMethod yX7_takes ∈ wsL_law := kr_38 _ (List.mem_of_getElem? (i := 7) rfl)
theorem kw_38_8 : Cond.selects RX7 yX7_takes yX7_takes ∈ wsL_law := kr_38 _ (List.mem_of_getElem? (i := 8) rfl)
theorem kw_38_9 : Cond.code yX7_takes cX7_takes 3 (some .int) ∈ wsL_law := kr_38 _ (List.mem_of_getElem? (i := 9) rfl)
theorem kw_38_10 : Cond.constantLong RX7 423 (28) ∈ wsL_law := kr_38 _ (List.mem_of_getElem? (i := 10) rfl)
theorem kw_38_12 : Cond.instanceMethod yX6_best ∈ wsL_law := kr_38 _ (List.mem_of_getElem? (i := 12) rfl)
theorem kw_38_13 : Cond.selects RX6 yX6_best yX6_best ∈ wsL_law := kr_38 _ (List.mem_of_getElem? (i := 13) rfl)
theorem kw_38_14 : Cond.code yX6_best cX6_best 8 (some .int) ∈ wsL_law := kr_38 _ (List.mem_of_getElem? (i := 14) rfl)
theorem kw_38_16 : Cond.instanceMethod yX7_best ∈ wsL_law := kr_38 _ (List.mem_of_getElem? (i := 16) rfl)
theorem kw_38_17 : Cond.selects RX7 yX7_best yX7_best ∈ wsL_law := kr_38 _ (List.mem_of_getElem? (i := 17) rfl)
theorem kw_38_18 : Cond.code yX7_best cX7_best 9 (some .int) ∈ wsL_law := kr_38 _ (List.mem_of_getElem? (i := 18) rfl)
theorem kw_38_19 : Cond.methodLink RX7 425 yX7_friendsBehind ∈ wsL_law := kr_38 _ (List.mem_of_getElem? (i := 19) rfl)
theorem kw_38_20 : Cond.instanceMethod yX7_friendsBehind ∈ wsL_law := kr_38 _ (List.mem_of_getElem? (i := 20) rfl)
theorem kw_38_21 : Cond.selects RX7 yX7_friendsBehind yX7_friendsBehind ∈ wsL_law := kr_38 _ (List.mem_of_getElem? (i := 21) rfl)
theorem kw_38_22 : Cond.code yX7_friendsBehind cX7_friendsBehind 3 (some .int) ∈ wsL_law := kr_38 _ (List.mem_of_getElem? (i := 22) rfl)
theorem kw_39_0 : Cond.instanceMethod yX6_change ∈ wsL_law := kr_39 _ (List.mem_of_getElem? (i := 0) rfl)
theorem kw_39_1 : Cond.selects RX6 yX6_change yX6_change ∈ wsL_law := kr_39 _ (List.mem_of_getElem? (i := 1) rfl)
theorem kw_39_2 : Cond.code yX6_change cX6_change 8 (some .int) ∈ wsL_law := kr_39 _ (List.mem_of_getElem? (i := 2) rfl)
theorem kw_39_3 : Cond.methodLink RX6 198 yX6_canChange ∈ wsL_law := kr_39 _ (List.mem_of_getElem? (i := 3) rfl)
theorem kw_39_4 : Cond.instanceMethod yX6_canChange ∈ wsL_law := kr_39 _ (List.mem_of_getElem? (i := 4) rfl)
theorem kw_39_5 : Cond.selects RX6 yX6_canChange yX6_canChange ∈ wsL_law := kr_39 _ (List.mem_of_getElem? (i := 5) rfl)
theorem kw_39_6 : Cond.code yX6_canChange cX6_canChange 5 (some .boolean) ∈ wsL_law := kr_39 _ (List.mem_of_getElem? (i := 6) rfl)
theorem kw_39_8 : Cond.instanceMethod yX7_change ∈ wsL_law := kr_39 _ (List.mem_of_getElem? (i := 8) rfl)
theorem kw_39_9 : Cond.selects RX7 yX7_change yX7_change ∈ wsL_law := kr_39 _ (List.mem_of_getElem? (i := 9) rfl)
theorem kw_39_10 : Cond.code yX7_change cX7_change 10 (some .int) ∈ wsL_law := kr_39 _ (List.mem_of_getElem? (i := 10) rfl)
theorem kw_39_12 : Cond.instanceMethod yX6_split ∈ wsL_law := kr_39 _ (List.mem_of_getElem? (i := 12) rfl)
theorem kw_39_13 : Cond.selects RX6 yX6_split yX6_split ∈ wsL_law := kr_39 _ (List.mem_of_getElem? (i := 13) rfl)
theorem kw_39_14 : Cond.code yX6_split cX6_split 8 (some .int) ∈ wsL_law := kr_39 _ (List.mem_of_getElem? (i := 14) rfl)
theorem kw_39_16 : Cond.instanceMethod yX7_split ∈ wsL_law := kr_39 _ (List.mem_of_getElem? (i := 16) rfl)
theorem kw_39_17 : Cond.selects RX7 yX7_split yX7_split ∈ wsL_law := kr_39 _ (List.mem_of_getElem? (i := 17) rfl)
theorem kw_39_18 : Cond.code yX7_split cX7_split 7 (some .int) ∈ wsL_law := kr_39 _ (List.mem_of_getElem? (i := 18) rfl)
theorem kw_39_19 : Cond.constantLong RX7 428 (2) ∈ wsL_law := kr_39 _ (List.mem_of_getElem? (i := 19) rfl)
theorem kw_39_20 : Cond.methodLink RX7 430 yX7_clears ∈ wsL_law := kr_39 _ (List.mem_of_getElem? (i := 20) rfl)
theorem kw_39_21 : Cond.instanceMethod yX7_clears ∈ wsL_law := kr_39 _ (List.mem_of_getElem? (i := 21) rfl)
theorem kw_39_22 : Cond.selects RX7 yX7_clears yX7_clears ∈ wsL_law := kr_39 _ (List.mem_of_getElem? (i := 22) rfl)
theorem kw_39_23 : Cond.code yX7_clears cX7_clears 2 none ∈ wsL_law := kr_39 _ (List.mem_of_getElem? (i := 23) rfl)
theorem kw_40_0 : Cond.methodLink RX7 433 yX7_sitsAgain ∈ wsL_law := kr_40 _ (List.mem_of_getElem? (i := 0) rfl)
theorem kw_40_1 : Cond.instanceMethod yX7_sitsAgain ∈ wsL_law := kr_40 _ (List.mem_of_getElem? (i := 1) rfl)
theorem kw_40_2 : Cond.selects RX7 yX7_sitsAgain yX7_sitsAgain ∈ wsL_law := kr_40 _ (List.mem_of_getElem? (i := 2) rfl)
theorem kw_40_3 : Cond.code yX7_sitsAgain cX7_sitsAgain 2 none ∈ wsL_law := kr_40 _ (List.mem_of_getElem? (i := 3) rfl)
theorem kw_40_5 : Cond.instanceMethod yX6_missed ∈ wsL_law := kr_40 _ (List.mem_of_getElem? (i := 5) rfl)
theorem kw_40_6 : Cond.selects RX6 yX6_missed yX6_missed ∈ wsL_law := kr_40 _ (List.mem_of_getElem? (i := 6) rfl)
theorem kw_40_7 : Cond.code yX6_missed cX6_missed 6 (some .int) ∈ wsL_law := kr_40 _ (List.mem_of_getElem? (i := 7) rfl)
theorem kw_40_9 : Cond.instanceMethod yX7_missed ∈ wsL_law := kr_40 _ (List.mem_of_getElem? (i := 9) rfl)
theorem kw_40_10 : Cond.selects RX7 yX7_missed yX7_missed ∈ wsL_law := kr_40 _ (List.mem_of_getElem? (i := 10) rfl)
theorem kw_40_11 : Cond.code yX7_missed cX7_missed 6 (some .int) ∈ wsL_law := kr_40 _ (List.mem_of_getElem? (i := 11) rfl)
theorem kw_40_13 : Cond.instanceMethod yX6_match ∈ wsL_law := kr_40 _ (List.mem_of_getElem? (i := 13) rfl)
theorem kw_40_14 : Cond.selects RX6 yX6_match yX6_match ∈ wsL_law := kr_40 _ (List.mem_of_getElem? (i := 14) rfl)
theorem kw_40_15 : Cond.code yX6_match cX6_match 7 (some .int) ∈ wsL_law := kr_40 _ (List.mem_of_getElem? (i := 15) rfl)
theorem kw_40_16 : Cond.methodLink RX6 210 yX3_knows ∈ wsL_law := kr_40 _ (List.mem_of_getElem? (i := 16) rfl)
theorem kw_40_17 : Cond.methodLink RX6 213 yX0_turn ∈ wsL_law := kr_40 _ (List.mem_of_getElem? (i := 17) rfl)
theorem kw_40_18 : Cond.instanceMethod yX0_turn ∈ wsL_law := kr_40 _ (List.mem_of_getElem? (i := 18) rfl)
theorem kw_40_19 : Cond.selects RX0 yX0_turn yX0_turn ∈ wsL_law := kr_40 _ (List.mem_of_getElem? (i := 19) rfl)
theorem kw_40_20 : Cond.code yX0_turn cX0_turn 3 none ∈ wsL_law := kr_40 _ (List.mem_of_getElem? (i := 20) rfl)
theorem kw_40_22 : Cond.instanceMethod yX7_match ∈ wsL_law := kr_40 _ (List.mem_of_getElem? (i := 22) rfl)
theorem kw_40_23 : Cond.selects RX7 yX7_match yX7_match ∈ wsL_law := kr_40 _ (List.mem_of_getElem? (i := 23) rfl)
theorem kw_41_0 : Cond.code yX7_match cX7_match 7 (some .int) ∈ wsL_law := kr_41 _ (List.mem_of_getElem? (i := 0) rfl)
theorem kw_41_2 : Cond.instanceMethod yX6_tells ∈ wsL_law := kr_41 _ (List.mem_of_getElem? (i := 2) rfl)
theorem kw_41_3 : Cond.selects RX6 yX6_tells yX6_tells ∈ wsL_law := kr_41 _ (List.mem_of_getElem? (i := 3) rfl)
theorem kw_41_4 : Cond.code yX6_tells cX6_tells 5 (some .int) ∈ wsL_law := kr_41 _ (List.mem_of_getElem? (i := 4) rfl)
theorem kw_41_5 : Cond.fieldLink RX6 224 "StreetTillTen$Sheet" "size" "I" ∈ wsL_law := kr_41 _ (List.mem_of_getElem? (i := 5) rfl)
theorem kw_41_6 : Cond.methodLink RX6 217 yX6_isSheet ∈ wsL_law := kr_41 _ (List.mem_of_getElem? (i := 6) rfl)
theorem kw_41_7 : Cond.static yX6_isSheet ∈ wsL_law := kr_41 _ (List.mem_of_getElem? (i := 7) rfl)
theorem kw_41_8 : Cond.code yX6_isSheet cX6_isSheet 1 (some .boolean) ∈ wsL_law := kr_41 _ (List.mem_of_getElem? (i := 8) rfl)
theorem kw_41_9 : Cond.methodLink RX6 220 yX2_isMissing ∈ wsL_law := kr_41 _ (List.mem_of_getElem? (i := 9) rfl)
theorem kw_41_10 : Cond.instanceMethod yX2_isMissing ∈ wsL_law := kr_41 _ (List.mem_of_getElem? (i := 10) rfl)
theorem kw_41_11 : Cond.selects RX2 yX2_isMissing yX2_isMissing ∈ wsL_law := kr_41 _ (List.mem_of_getElem? (i := 11) rfl)
theorem kw_41_12 : Cond.code yX2_isMissing cX2_isMissing 1 (some .boolean) ∈ wsL_law := kr_41 _ (List.mem_of_getElem? (i := 12) rfl)
theorem kw_41_13 : Cond.methodLink RX6 225 yX6_otherwise ∈ wsL_law := kr_41 _ (List.mem_of_getElem? (i := 13) rfl)
theorem kw_41_14 : Cond.instanceMethod yX6_otherwise ∈ wsL_law := kr_41 _ (List.mem_of_getElem? (i := 14) rfl)
theorem kw_41_15 : Cond.selects RX6 yX6_otherwise yX6_otherwise ∈ wsL_law := kr_41 _ (List.mem_of_getElem? (i := 15) rfl)
theorem kw_41_16 : Cond.code yX6_otherwise cX6_otherwise 3 (some .int) ∈ wsL_law := kr_41 _ (List.mem_of_getElem? (i := 16) rfl)
theorem kw_41_17 : Cond.methodLink RX6 301 yX2_unlikeItems ∈ wsL_law := kr_41 _ (List.mem_of_getElem? (i := 17) rfl)
theorem kw_41_18 : Cond.instanceMethod yX2_unlikeItems ∈ wsL_law := kr_41 _ (List.mem_of_getElem? (i := 18) rfl)
theorem kw_41_19 : Cond.selects RX2 yX2_unlikeItems yX2_unlikeItems ∈ wsL_law := kr_41 _ (List.mem_of_getElem? (i := 19) rfl)
theorem kw_41_20 : Cond.code yX2_unlikeItems cX2_unlikeItems 4 (some .int) ∈ wsL_law := kr_41 _ (List.mem_of_getElem? (i := 20) rfl)
theorem kw_41_21 : Cond.fieldLink RX2 19 "StreetTillTen$Sheet" "size" "I" ∈ wsL_law := kr_41 _ (List.mem_of_getElem? (i := 21) rfl)
theorem kw_41_22 : Cond.methodLink RX6 229 yX6_limits ∈ wsL_law := kr_41 _ (List.mem_of_getElem? (i := 22) rfl)
theorem kw_41_23 : Cond.instanceMethod yX6_limits ∈ wsL_law := kr_41 _ (List.mem_of_getElem? (i := 23) rfl)
theorem kw_42_0 : Cond.selects RX6 yX6_limits yX6_limits ∈ wsL_law := kr_42 _ (List.mem_of_getElem? (i := 0) rfl)
theorem kw_42_1 : Cond.code yX6_limits cX6_limits 5 (some .int) ∈ wsL_law := kr_42 _ (List.mem_of_getElem? (i := 1) rfl)
theorem kw_42_2 : Cond.methodLink RX6 311 yX6_fits ∈ wsL_law := kr_42 _ (List.mem_of_getElem? (i := 2) rfl)
theorem kw_42_3 : Cond.instanceMethod yX6_fits ∈ wsL_law := kr_42 _ (List.mem_of_getElem? (i := 3) rfl)
theorem kw_42_4 : Cond.selects RX6 yX6_fits yX6_fits ∈ wsL_law := kr_42 _ (List.mem_of_getElem? (i := 4) rfl)
theorem kw_42_5 : Cond.code yX6_fits cX6_fits 6 (some .boolean) ∈ wsL_law := kr_42 _ (List.mem_of_getElem? (i := 5) rfl)
theorem kw_42_6 : Cond.fieldLink RX6 268 "StreetTillTen$Sheet" "items" "[I" ∈ wsL_law := kr_42 _ (List.mem_of_getElem? (i := 6) rfl)
theorem kw_42_7 : Cond.methodLink RX6 232 yX6_leastLimit ∈ wsL_law := kr_42 _ (List.mem_of_getElem? (i := 7) rfl)
theorem kw_42_8 : Cond.instanceMethod yX6_leastLimit ∈ wsL_law := kr_42 _ (List.mem_of_getElem? (i := 8) rfl)
theorem kw_42_9 : Cond.selects RX6 yX6_leastLimit yX6_leastLimit ∈ wsL_law := kr_42 _ (List.mem_of_getElem? (i := 9) rfl)
theorem kw_42_10 : Cond.code yX6_leastLimit cX6_leastLimit 4 (some .int) ∈ wsL_law := kr_42 _ (List.mem_of_getElem? (i := 10) rfl)
theorem kw_42_11 : Cond.methodLink RX6 235 yX6_possible ∈ wsL_law := kr_42 _ (List.mem_of_getElem? (i := 11) rfl)
theorem kw_42_12 : Cond.instanceMethod yX6_possible ∈ wsL_law := kr_42 _ (List.mem_of_getElem? (i := 12) rfl)
theorem kw_42_13 : Cond.selects RX6 yX6_possible yX6_possible ∈ wsL_law := kr_42 _ (List.mem_of_getElem? (i := 13) rfl)
theorem kw_42_14 : Cond.code yX6_possible cX6_possible 7 (some .int) ∈ wsL_law := kr_42 _ (List.mem_of_getElem? (i := 14) rfl)
theorem kw_42_15 : Cond.methodLink RX6 305 yX6_choices ∈ wsL_law := kr_42 _ (List.mem_of_getElem? (i := 15) rfl)
theorem kw_42_16 : Cond.instanceMethod yX6_choices ∈ wsL_law := kr_42 _ (List.mem_of_getElem? (i := 16) rfl)
theorem kw_42_17 : Cond.selects RX6 yX6_choices yX6_choices ∈ wsL_law := kr_42 _ (List.mem_of_getElem? (i := 17) rfl)
theorem kw_42_18 : Cond.code yX6_choices cX6_choices 2 (some .int) ∈ wsL_law := kr_42 _ (List.mem_of_getElem? (i := 18) rfl)
theorem kw_42_19 : Cond.methodLink RX6 308 yX6_suppose ∈ wsL_law := kr_42 _ (List.mem_of_getElem? (i := 19) rfl)
theorem kw_42_20 : Cond.instanceMethod yX6_suppose ∈ wsL_law := kr_42 _ (List.mem_of_getElem? (i := 20) rfl)
theorem kw_42_21 : Cond.selects RX6 yX6_suppose yX6_suppose ∈ wsL_law := kr_42 _ (List.mem_of_getElem? (i := 21) rfl)
theorem kw_42_22 : Cond.code yX6_suppose cX6_suppose 4 none ∈ wsL_law := kr_42 _ (List.mem_of_getElem? (i := 22) rfl)
theorem kw_43_0 : Cond.instanceMethod yX7_tells ∈ wsL_law := kr_43 _ (List.mem_of_getElem? (i := 0) rfl)
theorem kw_43_1 : Cond.selects RX7 yX7_tells yX7_tells ∈ wsL_law := kr_43 _ (List.mem_of_getElem? (i := 1) rfl)
theorem kw_43_2 : Cond.code yX7_tells cX7_tells 9 (some .int) ∈ wsL_law := kr_43 _ (List.mem_of_getElem? (i := 2) rfl)
theorem kw_43_3 : Cond.constantLong RX7 439 (6) ∈ wsL_law := kr_43 _ (List.mem_of_getElem? (i := 3) rfl)
theorem kw_43_4 : Cond.methodLink RX7 436 yX7_isSheet ∈ wsL_law := kr_43 _ (List.mem_of_getElem? (i := 4) rfl)
theorem kw_43_5 : Cond.static yX7_isSheet ∈ wsL_law := kr_43 _ (List.mem_of_getElem? (i := 5) rfl)
theorem kw_43_6 : Cond.code yX7_isSheet cX7_isSheet 1 (some .boolean) ∈ wsL_law := kr_43 _ (List.mem_of_getElem? (i := 6) rfl)
theorem kw_43_7 : Cond.methodLink RX7 441 yX7_unlike ∈ wsL_law := kr_43 _ (List.mem_of_getElem? (i := 7) rfl)
theorem kw_43_8 : Cond.instanceMethod yX7_unlike ∈ wsL_law := kr_43 _ (List.mem_of_getElem? (i := 8) rfl)
theorem kw_43_9 : Cond.selects RX7 yX7_unlike yX7_unlike ∈ wsL_law := kr_43 _ (List.mem_of_getElem? (i := 9) rfl)
theorem kw_43_10 : Cond.code yX7_unlike cX7_unlike 5 (some .int) ∈ wsL_law := kr_43 _ (List.mem_of_getElem? (i := 10) rfl)
theorem kw_43_11 : Cond.methodLink RX7 444 yX7_limitsBy ∈ wsL_law := kr_43 _ (List.mem_of_getElem? (i := 11) rfl)
theorem kw_43_12 : Cond.instanceMethod yX7_limitsBy ∈ wsL_law := kr_43 _ (List.mem_of_getElem? (i := 12) rfl)
theorem kw_43_13 : Cond.selects RX7 yX7_limitsBy yX7_limitsBy ∈ wsL_law := kr_43 _ (List.mem_of_getElem? (i := 13) rfl)
theorem kw_43_14 : Cond.code yX7_limitsBy cX7_limitsBy 9 (some .int) ∈ wsL_law := kr_43 _ (List.mem_of_getElem? (i := 14) rfl)
theorem kw_43_16 : Cond.instanceMethod yX6_film ∈ wsL_law := kr_43 _ (List.mem_of_getElem? (i := 16) rfl)
theorem kw_43_17 : Cond.selects RX6 yX6_film yX6_film ∈ wsL_law := kr_43 _ (List.mem_of_getElem? (i := 17) rfl)
theorem kw_43_18 : Cond.code yX6_film cX6_film 5 (some .int) ∈ wsL_law := kr_43 _ (List.mem_of_getElem? (i := 18) rfl)
theorem kw_43_19 : Cond.methodLink RX6 239 yX2_lay ∈ wsL_law := kr_43 _ (List.mem_of_getElem? (i := 19) rfl)
theorem kw_43_20 : Cond.instanceMethod yX2_lay ∈ wsL_law := kr_43 _ (List.mem_of_getElem? (i := 20) rfl)
theorem kw_43_21 : Cond.selects RX2 yX2_lay yX2_lay ∈ wsL_law := kr_43 _ (List.mem_of_getElem? (i := 21) rfl)
theorem kw_43_22 : Cond.code yX2_lay cX2_lay 4 none ∈ wsL_law := kr_43 _ (List.mem_of_getElem? (i := 22) rfl)
theorem kw_43_23 : Cond.methodLink RX6 242 yX2_put ∈ wsL_law := kr_43 _ (List.mem_of_getElem? (i := 23) rfl)
theorem kw_44_0 : Cond.instanceMethod yX2_put ∈ wsL_law := kr_44 _ (List.mem_of_getElem? (i := 0) rfl)
theorem kw_44_1 : Cond.selects RX2 yX2_put yX2_put ∈ wsL_law := kr_44 _ (List.mem_of_getElem? (i := 1) rfl)
theorem kw_44_2 : Cond.code yX2_put cX2_put 3 none ∈ wsL_law := kr_44 _ (List.mem_of_getElem? (i := 2) rfl)
theorem kw_44_4 : Cond.instanceMethod yX7_film ∈ wsL_law := kr_44 _ (List.mem_of_getElem? (i := 4) rfl)
theorem kw_44_5 : Cond.selects RX7 yX7_film yX7_film ∈ wsL_law := kr_44 _ (List.mem_of_getElem? (i := 5) rfl)
theorem kw_44_6 : Cond.code yX7_film cX7_film 4 (some .int) ∈ wsL_law := kr_44 _ (List.mem_of_getElem? (i := 6) rfl)
theorem kw_44_7 : Cond.methodLink RX7 448 yX7_sheet ∈ wsL_law := kr_44 _ (List.mem_of_getElem? (i := 7) rfl)
theorem kw_44_8 : Cond.instanceMethod yX7_sheet ∈ wsL_law := kr_44 _ (List.mem_of_getElem? (i := 8) rfl)
theorem kw_44_9 : Cond.selects RX7 yX7_sheet yX7_sheet ∈ wsL_law := kr_44 _ (List.mem_of_getElem? (i := 9) rfl)
theorem kw_44_10 : Cond.code yX7_sheet cX7_sheet 5 (some .int) ∈ wsL_law := kr_44 _ (List.mem_of_getElem? (i := 10) rfl)
theorem kw_44_12 : Cond.instanceMethod yX6_drawn ∈ wsL_law := kr_44 _ (List.mem_of_getElem? (i := 12) rfl)
theorem kw_44_13 : Cond.selects RX6 yX6_drawn yX6_drawn ∈ wsL_law := kr_44 _ (List.mem_of_getElem? (i := 13) rfl)
theorem kw_44_14 : Cond.code yX6_drawn cX6_drawn 3 (some .int) ∈ wsL_law := kr_44 _ (List.mem_of_getElem? (i := 14) rfl)
theorem kw_44_15 : Cond.methodLink RX6 244 yX6_friendsDrawn ∈ wsL_law := kr_44 _ (List.mem_of_getElem? (i := 15) rfl)
theorem kw_44_16 : Cond.instanceMethod yX6_friendsDrawn ∈ wsL_law := kr_44 _ (List.mem_of_getElem? (i := 16) rfl)
theorem kw_44_17 : Cond.selects RX6 yX6_friendsDrawn yX6_friendsDrawn ∈ wsL_law := kr_44 _ (List.mem_of_getElem? (i := 17) rfl)
theorem kw_44_18 : Cond.code yX6_friendsDrawn cX6_friendsDrawn 5 (some .int) ∈ wsL_law := kr_44 _ (List.mem_of_getElem? (i := 18) rfl)
theorem kw_44_19 : Cond.constant RX6 295 (1103515245) ∈ wsL_law := kr_44 _ (List.mem_of_getElem? (i := 19) rfl)
theorem kw_44_21 : Cond.instanceMethod yX7_drawn ∈ wsL_law := kr_44 _ (List.mem_of_getElem? (i := 21) rfl)
theorem kw_44_22 : Cond.selects RX7 yX7_drawn yX7_drawn ∈ wsL_law := kr_44 _ (List.mem_of_getElem? (i := 22) rfl)
theorem kw_44_23 : Cond.code yX7_drawn cX7_drawn 3 (some .int) ∈ wsL_law := kr_44 _ (List.mem_of_getElem? (i := 23) rfl)
theorem kw_45_0 : Cond.methodLink RX7 452 yX7_friendsBy ∈ wsL_law := kr_45 _ (List.mem_of_getElem? (i := 0) rfl)
theorem kw_45_1 : Cond.instanceMethod yX7_friendsBy ∈ wsL_law := kr_45 _ (List.mem_of_getElem? (i := 1) rfl)
theorem kw_45_2 : Cond.selects RX7 yX7_friendsBy yX7_friendsBy ∈ wsL_law := kr_45 _ (List.mem_of_getElem? (i := 2) rfl)
theorem kw_45_3 : Cond.code yX7_friendsBy cX7_friendsBy 5 (some .int) ∈ wsL_law := kr_45 _ (List.mem_of_getElem? (i := 3) rfl)
theorem kw_45_4 : Cond.constant RX7 451 (1103515245) ∈ wsL_law := kr_45 _ (List.mem_of_getElem? (i := 4) rfl)
theorem kw_45_6 : Cond.instanceMethod yX6_chance ∈ wsL_law := kr_45 _ (List.mem_of_getElem? (i := 6) rfl)
theorem kw_45_7 : Cond.selects RX6 yX6_chance yX6_chance ∈ wsL_law := kr_45 _ (List.mem_of_getElem? (i := 7) rfl)
theorem kw_45_8 : Cond.code yX6_chance cX6_chance 7 (some .long) ∈ wsL_law := kr_45 _ (List.mem_of_getElem? (i := 8) rfl)
theorem kw_45_9 : Cond.constantLong RX6 247 (-4611686018427387904) ∈ wsL_law := kr_45 _ (List.mem_of_getElem? (i := 9) rfl)
theorem kw_45_10 : Cond.methodLink RX6 249 yX6_commonDivisor ∈ wsL_law := kr_45 _ (List.mem_of_getElem? (i := 10) rfl)
theorem kw_45_11 : Cond.static yX6_commonDivisor ∈ wsL_law := kr_45 _ (List.mem_of_getElem? (i := 11) rfl)
theorem kw_45_12 : Cond.code yX6_commonDivisor cX6_commonDivisor 6 (some .int) ∈ wsL_law := kr_45 _ (List.mem_of_getElem? (i := 12) rfl)
theorem kw_45_13 : Cond.methodLink RX6 296 Lib.Math.max.name ∈ wsL_law := kr_45 _ (List.mem_of_getElem? (i := 13) rfl)
theorem kw_45_15 : Cond.instanceMethod yX7_chance ∈ wsL_law := kr_45 _ (List.mem_of_getElem? (i := 15) rfl)
theorem kw_45_16 : Cond.selects RX7 yX7_chance yX7_chance ∈ wsL_law := kr_45 _ (List.mem_of_getElem? (i := 16) rfl)
theorem kw_45_17 : Cond.code yX7_chance cX7_chance 13 (some .long) ∈ wsL_law := kr_45 _ (List.mem_of_getElem? (i := 17) rfl)
theorem kw_45_18 : Cond.constantLong RX7 455 (-4611686018427387904) ∈ wsL_law := kr_45 _ (List.mem_of_getElem? (i := 18) rfl)
theorem kw_45_20 : Cond.instanceMethod yX6_image ∈ wsL_law := kr_45 _ (List.mem_of_getElem? (i := 20) rfl)
theorem kw_45_21 : Cond.selects RX6 yX6_image yX6_image ∈ wsL_law := kr_45 _ (List.mem_of_getElem? (i := 21) rfl)
theorem kw_45_22 : Cond.code yX6_image cX6_image 1 (some .int) ∈ wsL_law := kr_45 _ (List.mem_of_getElem? (i := 22) rfl)
theorem kw_45_23 : Cond.fieldLink RX6 252 "StreetTillTen" "hasImage" "Z" ∈ wsL_law := kr_45 _ (List.mem_of_getElem? (i := 23) rfl)
theorem kw_46_1 : Cond.instanceMethod yX7_image ∈ wsL_law := kr_46 _ (List.mem_of_getElem? (i := 1) rfl)
theorem kw_46_2 : Cond.selects RX7 yX7_image yX7_image ∈ wsL_law := kr_46 _ (List.mem_of_getElem? (i := 2) rfl)
theorem kw_46_3 : Cond.code yX7_image cX7_image 2 (some .int) ∈ wsL_law := kr_46 _ (List.mem_of_getElem? (i := 3) rfl)
theorem kw_46_4 : Cond.fieldLink RX7 457 "StreetTillTenModel" "yearKept" "I" ∈ wsL_law := kr_46 _ (List.mem_of_getElem? (i := 4) rfl)
theorem kw_46_5 : Cond.fieldLink RX7 460 "StreetTillTenModel" "limitKept" "I" ∈ wsL_law := kr_46 _ (List.mem_of_getElem? (i := 5) rfl)
theorem kw_46_6 : Cond.fieldLink RX7 463 "StreetTillTenModel" "ruleKept" "I" ∈ wsL_law := kr_46 _ (List.mem_of_getElem? (i := 6) rfl)
theorem kw_46_8 : Cond.instanceMethod yX6_back ∈ wsL_law := kr_46 _ (List.mem_of_getElem? (i := 8) rfl)
theorem kw_46_9 : Cond.selects RX6 yX6_back yX6_back ∈ wsL_law := kr_46 _ (List.mem_of_getElem? (i := 9) rfl)
theorem kw_46_10 : Cond.code yX6_back cX6_back 1 (some .int) ∈ wsL_law := kr_46 _ (List.mem_of_getElem? (i := 10) rfl)
theorem kw_46_12 : Cond.instanceMethod yX7_back ∈ wsL_law := kr_46 _ (List.mem_of_getElem? (i := 12) rfl)
theorem kw_46_13 : Cond.selects RX7 yX7_back yX7_back ∈ wsL_law := kr_46 _ (List.mem_of_getElem? (i := 13) rfl)
theorem kw_46_14 : Cond.code yX7_back cX7_back 2 (some .int) ∈ wsL_law := kr_46 _ (List.mem_of_getElem? (i := 14) rfl)
theorem kw_46_16 : Cond.instanceMethod yX6_count ∈ wsL_law := kr_46 _ (List.mem_of_getElem? (i := 16) rfl)
theorem kw_46_17 : Cond.selects RX6 yX6_count yX6_count ∈ wsL_law := kr_46 _ (List.mem_of_getElem? (i := 17) rfl)
theorem kw_46_18 : Cond.code yX6_count cX6_count 2 (some .int) ∈ wsL_law := kr_46 _ (List.mem_of_getElem? (i := 18) rfl)
theorem kw_46_19 : Cond.methodLink RX6 256 yX3_seated ∈ wsL_law := kr_46 _ (List.mem_of_getElem? (i := 19) rfl)
theorem kw_46_20 : Cond.instanceMethod yX3_seated ∈ wsL_law := kr_46 _ (List.mem_of_getElem? (i := 20) rfl)
theorem kw_46_21 : Cond.selects RX3 yX3_seated yX3_seated ∈ wsL_law := kr_46 _ (List.mem_of_getElem? (i := 21) rfl)
theorem kw_46_22 : Cond.code yX3_seated cX3_seated 3 (some .int) ∈ wsL_law := kr_46 _ (List.mem_of_getElem? (i := 22) rfl)
theorem kw_47_0 : Cond.instanceMethod yX7_count ∈ wsL_law := kr_47 _ (List.mem_of_getElem? (i := 0) rfl)
theorem kw_47_1 : Cond.selects RX7 yX7_count yX7_count ∈ wsL_law := kr_47 _ (List.mem_of_getElem? (i := 1) rfl)
theorem kw_47_2 : Cond.code yX7_count cX7_count 4 (some .int) ∈ wsL_law := kr_47 _ (List.mem_of_getElem? (i := 2) rfl)
theorem kw_47_4 : Cond.instanceMethod yX6_sheet ∈ wsL_law := kr_47 _ (List.mem_of_getElem? (i := 4) rfl)
theorem kw_47_5 : Cond.selects RX6 yX6_sheet yX6_sheet ∈ wsL_law := kr_47 _ (List.mem_of_getElem? (i := 5) rfl)
theorem kw_47_6 : Cond.code yX6_sheet cX6_sheet 4 (some .int) ∈ wsL_law := kr_47 _ (List.mem_of_getElem? (i := 6) rfl)
theorem kw_47_7 : Cond.methodLink RX6 259 yX6_isSort ∈ wsL_law := kr_47 _ (List.mem_of_getElem? (i := 7) rfl)
theorem kw_47_8 : Cond.static yX6_isSort ∈ wsL_law := kr_47 _ (List.mem_of_getElem? (i := 8) rfl)
theorem kw_47_9 : Cond.code yX6_isSort cX6_isSort 1 (some .boolean) ∈ wsL_law := kr_47 _ (List.mem_of_getElem? (i := 9) rfl)
theorem kw_47_12 : Cond.instanceMethod yX6_cell ∈ wsL_law := kr_47 _ (List.mem_of_getElem? (i := 12) rfl)
theorem kw_47_13 : Cond.selects RX6 yX6_cell yX6_cell ∈ wsL_law := kr_47 _ (List.mem_of_getElem? (i := 13) rfl)
theorem kw_47_14 : Cond.code yX6_cell cX6_cell 5 (some .int) ∈ wsL_law := kr_47 _ (List.mem_of_getElem? (i := 14) rfl)
theorem kw_47_15 : Cond.methodLink RX6 262 yX2_holds ∈ wsL_law := kr_47 _ (List.mem_of_getElem? (i := 15) rfl)
theorem kw_47_16 : Cond.instanceMethod yX2_holds ∈ wsL_law := kr_47 _ (List.mem_of_getElem? (i := 16) rfl)
theorem kw_47_17 : Cond.selects RX2 yX2_holds yX2_holds ∈ wsL_law := kr_47 _ (List.mem_of_getElem? (i := 17) rfl)
theorem kw_47_18 : Cond.code yX2_holds cX2_holds 3 (some .boolean) ∈ wsL_law := kr_47 _ (List.mem_of_getElem? (i := 18) rfl)
theorem kw_47_20 : Cond.instanceMethod yX7_cell ∈ wsL_law := kr_47 _ (List.mem_of_getElem? (i := 20) rfl)
theorem kw_47_21 : Cond.selects RX7 yX7_cell yX7_cell ∈ wsL_law := kr_47 _ (List.mem_of_getElem? (i := 21) rfl)
theorem kw_47_22 : Cond.code yX7_cell cX7_cell 4 (some .int) ∈ wsL_law := kr_47 _ (List.mem_of_getElem? (i := 22) rfl)
theorem kw_48_0 : Cond.instanceMethod yX6_copy ∈ wsL_law := kr_48 _ (List.mem_of_getElem? (i := 0) rfl)
theorem kw_48_1 : Cond.selects RX6 yX6_copy yX6_copy ∈ wsL_law := kr_48 _ (List.mem_of_getElem? (i := 1) rfl)
theorem kw_48_2 : Cond.code yX6_copy cX6_copy 8 (some .int) ∈ wsL_law := kr_48 _ (List.mem_of_getElem? (i := 2) rfl)
theorem kw_48_3 : Cond.fieldLink RX6 265 "StreetTillTen$Sheet" "sort" "I" ∈ wsL_law := kr_48 _ (List.mem_of_getElem? (i := 3) rfl)
theorem kw_48_4 : Cond.methodLink RX6 271 arraycopyName ∈ wsL_law := kr_48 _ (List.mem_of_getElem? (i := 4) rfl)
theorem kw_48_6 : Cond.instanceMethod yX7_copy ∈ wsL_law := kr_48 _ (List.mem_of_getElem? (i := 6) rfl)
theorem kw_48_7 : Cond.selects RX7 yX7_copy yX7_copy ∈ wsL_law := kr_48 _ (List.mem_of_getElem? (i := 7) rfl)
theorem kw_48_8 : Cond.code yX7_copy cX7_copy 9 (some .int) ∈ wsL_law := kr_48 _ (List.mem_of_getElem? (i := 8) rfl)
theorem kw_48_10 : Cond.instanceMethod yX6_houses ∈ wsL_law := kr_48 _ (List.mem_of_getElem? (i := 10) rfl)
theorem kw_48_11 : Cond.selects RX6 yX6_houses yX6_houses ∈ wsL_law := kr_48 _ (List.mem_of_getElem? (i := 11) rfl)
theorem kw_48_12 : Cond.code yX6_houses cX6_houses 9 (some .int) ∈ wsL_law := kr_48 _ (List.mem_of_getElem? (i := 12) rfl)
theorem kw_48_14 : Cond.instanceMethod yX7_houses ∈ wsL_law := kr_48 _ (List.mem_of_getElem? (i := 14) rfl)
theorem kw_48_15 : Cond.selects RX7 yX7_houses yX7_houses ∈ wsL_law := kr_48 _ (List.mem_of_getElem? (i := 15) rfl)
theorem kw_48_16 : Cond.code yX7_houses cX7_houses 8 (some .int) ∈ wsL_law := kr_48 _ (List.mem_of_getElem? (i := 16) rfl)
theorem kw_48_17 : Cond.constantLong RX7 466 (8) ∈ wsL_law := kr_48 _ (List.mem_of_getElem? (i := 17) rfl)
theorem kw_48_18 : Cond.methodLink RX7 468 yX7_house ∈ wsL_law := kr_48 _ (List.mem_of_getElem? (i := 18) rfl)
theorem kw_48_20 : Cond.instanceMethod yX6_taken ∈ wsL_law := kr_48 _ (List.mem_of_getElem? (i := 20) rfl)
theorem kw_48_21 : Cond.selects RX6 yX6_taken yX6_taken ∈ wsL_law := kr_48 _ (List.mem_of_getElem? (i := 21) rfl)
theorem kw_48_22 : Cond.code yX6_taken cX6_taken 3 (some .int) ∈ wsL_law := kr_48 _ (List.mem_of_getElem? (i := 22) rfl)
theorem kw_48_23 : Cond.methodLink RX6 277 yX6_isUnder ∈ wsL_law := kr_48 _ (List.mem_of_getElem? (i := 23) rfl)
theorem kw_49_0 : Cond.static yX6_isUnder ∈ wsL_law := kr_49 _ (List.mem_of_getElem? (i := 0) rfl)
theorem kw_49_1 : Cond.code yX6_isUnder cX6_isUnder 4 (some .boolean) ∈ wsL_law := kr_49 _ (List.mem_of_getElem? (i := 1) rfl)
theorem kw_49_2 : Cond.fieldLink RX6 280 "StreetTillTen" "KIND_ABOVE" "[I" ∈ wsL_law := kr_49 _ (List.mem_of_getElem? (i := 2) rfl)
theorem kw_49_4 : Cond.instanceMethod yX7_taken ∈ wsL_law := kr_49 _ (List.mem_of_getElem? (i := 4) rfl)
theorem kw_49_5 : Cond.selects RX7 yX7_taken yX7_taken ∈ wsL_law := kr_49 _ (List.mem_of_getElem? (i := 5) rfl)
theorem kw_49_6 : Cond.code yX7_taken cX7_taken 4 (some .int) ∈ wsL_law := kr_49 _ (List.mem_of_getElem? (i := 6) rfl)
theorem kw_49_7 : Cond.methodLink RX7 471 yX7_over ∈ wsL_law := kr_49 _ (List.mem_of_getElem? (i := 7) rfl)
theorem kw_49_8 : Cond.static yX7_over ∈ wsL_law := kr_49 _ (List.mem_of_getElem? (i := 8) rfl)
theorem kw_49_9 : Cond.code yX7_over cX7_over 1 (some .int) ∈ wsL_law := kr_49 _ (List.mem_of_getElem? (i := 9) rfl)
theorem xas_mem {α : Type} : ∀ {l : List (Nat × α)} {n : Nat} {v : α}, xas l n = some v → (n, v) ∈ l
  | [], n, v, h => by cases h
  | (k, u) :: l, n, v, h => by
    rw [xas_cons] at h
    cases e : Nat.beq k n with
    | true =>
      rw [e] at h
      cases h
      rw [Nat.eq_of_beq_eq_true e]
      exact List.mem_cons_self
    | false =>
      rw [e] at h
      exact List.mem_cons_of_mem _ (xas_mem h)
theorem xas2_mem {α : Type} {L : List (Nat × List (Nat × α))} {own idx : Nat} {v : α} (h : xas2 L own idx = some v) : ∃ l, (own, l) ∈ L ∧ (idx, v) ∈ l := by
  unfold xas2 at h
  split at h
  · next l hl => exact ⟨l, xas_mem hl, xas_mem h⟩
  · cases h
def xNest : List (Nat × Nat × MethodName) := [(6, 9, yX4_init), (6, 24, yX0_init), (6, 38, yX2_init)]
def xFL (own : Nat) (e : Nat × Nat × Nat) : Prop := (∃ q : vw_C, vwCl[e.2.1]? = some q ∧ e.2.2 < q.2.2 ∧ Cond.fieldLink (xcn own) e.1 (q.2.1 e.2.2).1 (q.2.1 e.2.2).2.1 (q.2.1 e.2.2).2.2.1 ∈ wsL_law) ∨ (e.2.1 = 200 ∧ Cond.fieldLink (xcn own) e.1 "java/lang/String" (if e.2.2 = 0 then "value" else "coder") (if e.2.2 = 0 then "[B" else "B") ∈ wsL_law)
theorem xfl_ok0 : ∀ e ∈ xflL0, xFL 0 e := List.forall_mem_cons.mpr ⟨Or.inl ⟨(RX0, TX0, 2), rfl, by decide, kw_32_9⟩, List.forall_mem_cons.mpr ⟨Or.inl ⟨(RX0, TX0, 2), rfl, by decide, kw_3_2⟩, List.forall_mem_cons.mpr ⟨Or.inl ⟨(RX3, TX3, 9), rfl, by decide, kw_32_8⟩, fun _ h => absurd h List.not_mem_nil⟩⟩⟩
theorem xfl_ok1 : ∀ e ∈ xflL1, xFL 1 e := List.forall_mem_cons.mpr ⟨Or.inl ⟨(RX1, TX1, 5), rfl, by decide, kw_6_10⟩, List.forall_mem_cons.mpr ⟨Or.inl ⟨(RX1, TX1, 5), rfl, by decide, kw_6_3⟩, List.forall_mem_cons.mpr ⟨Or.inl ⟨(RX1, TX1, 5), rfl, by decide, kw_6_8⟩, List.forall_mem_cons.mpr ⟨Or.inl ⟨(RX1, TX1, 5), rfl, by decide, kw_6_2⟩, List.forall_mem_cons.mpr ⟨Or.inl ⟨(RX1, TX1, 5), rfl, by decide, kw_6_11⟩, List.forall_mem_cons.mpr ⟨Or.inl ⟨(RX4, TX4, 6), rfl, by decide, kw_6_9⟩, List.forall_mem_cons.mpr ⟨Or.inl ⟨(RX4, TX4, 6), rfl, by decide, kw_8_21⟩, List.forall_mem_cons.mpr ⟨Or.inl ⟨(RX4, TX4, 6), rfl, by decide, kw_9_20⟩, fun _ h => absurd h List.not_mem_nil⟩⟩⟩⟩⟩⟩⟩⟩
theorem xfl_ok2 : ∀ e ∈ xflL2, xFL 2 e := List.forall_mem_cons.mpr ⟨Or.inl ⟨(RX2, TX2, 3), rfl, by decide, kw_3_15⟩, List.forall_mem_cons.mpr ⟨Or.inl ⟨(RX2, TX2, 3), rfl, by decide, kw_3_14⟩, List.forall_mem_cons.mpr ⟨Or.inl ⟨(RX2, TX2, 3), rfl, by decide, kw_41_21⟩, fun _ h => absurd h List.not_mem_nil⟩⟩⟩
theorem xfl_ok3 : ∀ e ∈ xflL3, xFL 3 e := List.forall_mem_cons.mpr ⟨Or.inl ⟨(RX3, TX3, 9), rfl, by decide, kw_24_8⟩, List.forall_mem_cons.mpr ⟨Or.inl ⟨(RX3, TX3, 9), rfl, by decide, kw_10_15⟩, List.forall_mem_cons.mpr ⟨Or.inl ⟨(RX3, TX3, 9), rfl, by decide, kw_10_12⟩, List.forall_mem_cons.mpr ⟨Or.inl ⟨(RX3, TX3, 9), rfl, by decide, kw_10_14⟩, List.forall_mem_cons.mpr ⟨Or.inl ⟨(RX3, TX3, 9), rfl, by decide, kw_10_11⟩, List.forall_mem_cons.mpr ⟨Or.inl ⟨(RX3, TX3, 9), rfl, by decide, kw_10_10⟩, List.forall_mem_cons.mpr ⟨Or.inl ⟨(RX3, TX3, 9), rfl, by decide, kw_10_16⟩, List.forall_mem_cons.mpr ⟨Or.inl ⟨(RX3, TX3, 9), rfl, by decide, kw_26_16⟩, List.forall_mem_cons.mpr ⟨Or.inl ⟨(RX3, TX3, 9), rfl, by decide, kw_10_9⟩, fun _ h => absurd h List.not_mem_nil⟩⟩⟩⟩⟩⟩⟩⟩⟩
theorem xfl_ok4 : ∀ e ∈ xflL4, xFL 4 e := List.forall_mem_cons.mpr ⟨Or.inl ⟨(RX4, TX4, 6), rfl, by decide, kw_6_21⟩, List.forall_mem_cons.mpr ⟨Or.inl ⟨(RX4, TX4, 6), rfl, by decide, kw_2_22⟩, List.forall_mem_cons.mpr ⟨Or.inl ⟨(RX4, TX4, 6), rfl, by decide, kw_5_21⟩, List.forall_mem_cons.mpr ⟨Or.inl ⟨(RX4, TX4, 6), rfl, by decide, kw_2_19⟩, List.forall_mem_cons.mpr ⟨Or.inl ⟨(RX4, TX4, 6), rfl, by decide, kw_2_20⟩, List.forall_mem_cons.mpr ⟨Or.inl ⟨(RX4, TX4, 6), rfl, by decide, kw_2_21⟩, fun _ h => absurd h List.not_mem_nil⟩⟩⟩⟩⟩⟩
theorem xfl_ok5 : ∀ e ∈ xflL5, xFL 5 e := List.forall_mem_cons.mpr ⟨Or.inl ⟨(RX5, TX5, 5), rfl, by decide, kw_3_9⟩, List.forall_mem_cons.mpr ⟨Or.inl ⟨(RX5, TX5, 5), rfl, by decide, kw_6_16⟩, List.forall_mem_cons.mpr ⟨Or.inl ⟨(RX5, TX5, 5), rfl, by decide, kw_3_8⟩, List.forall_mem_cons.mpr ⟨Or.inl ⟨(RX5, TX5, 5), rfl, by decide, kw_3_7⟩, List.forall_mem_cons.mpr ⟨Or.inl ⟨(RX5, TX5, 5), rfl, by decide, kw_3_10⟩, fun _ h => absurd h List.not_mem_nil⟩⟩⟩⟩⟩
theorem xfl_ok6 : ∀ e ∈ xflL6, xFL 6 e := List.forall_mem_cons.mpr ⟨Or.inl ⟨(RX6, TX6, 10), rfl, by decide, kw_2_12⟩, List.forall_mem_cons.mpr ⟨Or.inl ⟨(RX6, TX6, 10), rfl, by decide, kw_2_13⟩, List.forall_mem_cons.mpr ⟨Or.inl ⟨(RX3, TX3, 9), rfl, by decide, kw_12_15⟩, List.forall_mem_cons.mpr ⟨Or.inl ⟨(RX6, TX6, 10), rfl, by decide, kw_1_21⟩, List.forall_mem_cons.mpr ⟨Or.inl ⟨(RX3, TX3, 9), rfl, by decide, kw_12_10⟩, List.forall_mem_cons.mpr ⟨Or.inl ⟨(RX6, TX6, 10), rfl, by decide, kw_1_17⟩, List.forall_mem_cons.mpr ⟨Or.inl ⟨(RX6, TX6, 10), rfl, by decide, kw_1_23⟩, List.forall_mem_cons.mpr ⟨Or.inl ⟨(RX6, TX6, 10), rfl, by decide, kw_2_8⟩, List.forall_mem_cons.mpr ⟨Or.inl ⟨(RX6, TX6, 10), rfl, by decide, kw_1_15⟩, List.forall_mem_cons.mpr ⟨Or.inl ⟨(RX3, TX3, 9), rfl, by decide, kw_24_22⟩, List.forall_mem_cons.mpr ⟨Or.inl ⟨(RX2, TX2, 3), rfl, by decide, kw_42_6⟩, List.forall_mem_cons.mpr ⟨Or.inl ⟨(RX3, TX3, 9), rfl, by decide, kw_12_7⟩, List.forall_mem_cons.mpr ⟨Or.inl ⟨(RX3, TX3, 9), rfl, by decide, kw_12_9⟩, List.forall_mem_cons.mpr ⟨Or.inl ⟨(RX3, TX3, 9), rfl, by decide, kw_28_14⟩, List.forall_mem_cons.mpr ⟨Or.inl ⟨(RX6, TX6, 10), rfl, by decide, kw_2_7⟩, List.forall_mem_cons.mpr ⟨Or.inl ⟨(RX6, TX6, 10), rfl, by decide, kw_2_14⟩, List.forall_mem_cons.mpr ⟨Or.inl ⟨(RX3, TX3, 9), rfl, by decide, kw_25_19⟩, List.forall_mem_cons.mpr ⟨Or.inl ⟨(RX2, TX2, 3), rfl, by decide, kw_48_3⟩, List.forall_mem_cons.mpr ⟨Or.inl ⟨(RX3, TX3, 9), rfl, by decide, kw_12_8⟩, List.forall_mem_cons.mpr ⟨Or.inl ⟨(RX4, TX4, 6), rfl, by decide, kw_27_19⟩, List.forall_mem_cons.mpr ⟨Or.inl ⟨(RX5, TX5, 5), rfl, by decide, kw_28_15⟩, List.forall_mem_cons.mpr ⟨Or.inl ⟨(RX6, TX6, 10), rfl, by decide, kw_45_23⟩, List.forall_mem_cons.mpr ⟨Or.inl ⟨(RX2, TX2, 3), rfl, by decide, kw_41_5⟩, fun _ h => absurd h List.not_mem_nil⟩⟩⟩⟩⟩⟩⟩⟩⟩⟩⟩⟩⟩⟩⟩⟩⟩⟩⟩⟩⟩⟩⟩
theorem xfl_ok7 : ∀ e ∈ xflL7, xFL 7 e := List.forall_mem_cons.mpr ⟨Or.inl ⟨(RX7, TX7, 47), rfl, by decide, kw_13_8⟩, List.forall_mem_cons.mpr ⟨Or.inl ⟨(RX7, TX7, 47), rfl, by decide, kw_15_10⟩, List.forall_mem_cons.mpr ⟨Or.inl ⟨(RX7, TX7, 47), rfl, by decide, kw_15_9⟩, List.forall_mem_cons.mpr ⟨Or.inl ⟨(RX7, TX7, 47), rfl, by decide, kw_11_3⟩, List.forall_mem_cons.mpr ⟨Or.inl ⟨(RX7, TX7, 47), rfl, by decide, kw_15_21⟩, List.forall_mem_cons.mpr ⟨Or.inl ⟨(RX7, TX7, 47), rfl, by decide, kw_15_11⟩, List.forall_mem_cons.mpr ⟨Or.inl ⟨(RX7, TX7, 47), rfl, by decide, kw_15_8⟩, List.forall_mem_cons.mpr ⟨Or.inl ⟨(RX7, TX7, 47), rfl, by decide, kw_11_0⟩, List.forall_mem_cons.mpr ⟨Or.inl ⟨(RX7, TX7, 47), rfl, by decide, kw_13_23⟩, List.forall_mem_cons.mpr ⟨Or.inl ⟨(RX7, TX7, 47), rfl, by decide, kw_10_21⟩, List.forall_mem_cons.mpr ⟨Or.inl ⟨(RX7, TX7, 47), rfl, by decide, kw_11_2⟩, List.forall_mem_cons.mpr ⟨Or.inl ⟨(RX7, TX7, 47), rfl, by decide, kw_11_8⟩, List.forall_mem_cons.mpr ⟨Or.inl ⟨(RX7, TX7, 47), rfl, by decide, kw_11_20⟩, List.forall_mem_cons.mpr ⟨Or.inl ⟨(RX7, TX7, 47), rfl, by decide, kw_11_19⟩, List.forall_mem_cons.mpr ⟨Or.inl ⟨(RX7, TX7, 47), rfl, by decide, kw_28_1⟩, List.forall_mem_cons.mpr ⟨Or.inl ⟨(RX7, TX7, 47), rfl, by decide, kw_11_1⟩, List.forall_mem_cons.mpr ⟨Or.inl ⟨(RX7, TX7, 47), rfl, by decide, kw_11_4⟩, List.forall_mem_cons.mpr ⟨Or.inl ⟨(RX7, TX7, 47), rfl, by decide, kw_11_16⟩, List.forall_mem_cons.mpr ⟨Or.inl ⟨(RX7, TX7, 47), rfl, by decide, kw_14_22⟩, List.forall_mem_cons.mpr ⟨Or.inl ⟨(RX7, TX7, 47), rfl, by decide, kw_11_17⟩, List.forall_mem_cons.mpr ⟨Or.inl ⟨(RX7, TX7, 47), rfl, by decide, kw_11_18⟩, List.forall_mem_cons.mpr ⟨Or.inl ⟨(RX7, TX7, 47), rfl, by decide, kw_11_7⟩, List.forall_mem_cons.mpr ⟨Or.inl ⟨(RX7, TX7, 47), rfl, by decide, kw_15_16⟩, List.forall_mem_cons.mpr ⟨Or.inl ⟨(RX7, TX7, 47), rfl, by decide, kw_11_5⟩, List.forall_mem_cons.mpr ⟨Or.inl ⟨(RX7, TX7, 47), rfl, by decide, kw_11_6⟩, List.forall_mem_cons.mpr ⟨Or.inl ⟨(RX7, TX7, 47), rfl, by decide, kw_10_22⟩, List.forall_mem_cons.mpr ⟨Or.inl ⟨(RX7, TX7, 47), rfl, by decide, kw_11_14⟩, List.forall_mem_cons.mpr ⟨Or.inl ⟨(RX7, TX7, 47), rfl, by decide, kw_10_23⟩, List.forall_mem_cons.mpr ⟨Or.inl ⟨(RX7, TX7, 47), rfl, by decide, kw_11_9⟩, List.forall_mem_cons.mpr ⟨Or.inl ⟨(RX7, TX7, 47), rfl, by decide, kw_11_10⟩, List.forall_mem_cons.mpr ⟨Or.inl ⟨(RX7, TX7, 47), rfl, by decide, kw_11_11⟩, List.forall_mem_cons.mpr ⟨Or.inl ⟨(RX7, TX7, 47), rfl, by decide, kw_11_12⟩, List.forall_mem_cons.mpr ⟨Or.inl ⟨(RX7, TX7, 47), rfl, by decide, kw_11_13⟩, List.forall_mem_cons.mpr ⟨Or.inl ⟨(RX7, TX7, 47), rfl, by decide, kw_15_7⟩, List.forall_mem_cons.mpr ⟨Or.inl ⟨(RX7, TX7, 47), rfl, by decide, kw_14_16⟩, List.forall_mem_cons.mpr ⟨Or.inl ⟨(RX7, TX7, 47), rfl, by decide, kw_14_17⟩, List.forall_mem_cons.mpr ⟨Or.inl ⟨(RX7, TX7, 47), rfl, by decide, kw_14_18⟩, List.forall_mem_cons.mpr ⟨Or.inl ⟨(RX7, TX7, 47), rfl, by decide, kw_14_19⟩, List.forall_mem_cons.mpr ⟨Or.inl ⟨(RX7, TX7, 47), rfl, by decide, kw_14_20⟩, List.forall_mem_cons.mpr ⟨Or.inl ⟨(RX7, TX7, 47), rfl, by decide, kw_14_21⟩, List.forall_mem_cons.mpr ⟨Or.inl ⟨(RX7, TX7, 47), rfl, by decide, kw_15_6⟩, List.forall_mem_cons.mpr ⟨Or.inl ⟨(RX7, TX7, 47), rfl, by decide, kw_16_18⟩, List.forall_mem_cons.mpr ⟨Or.inl ⟨(RX7, TX7, 47), rfl, by decide, kw_37_14⟩, List.forall_mem_cons.mpr ⟨Or.inl ⟨(RX7, TX7, 47), rfl, by decide, kw_46_4⟩, List.forall_mem_cons.mpr ⟨Or.inl ⟨(RX7, TX7, 47), rfl, by decide, kw_46_5⟩, List.forall_mem_cons.mpr ⟨Or.inl ⟨(RX7, TX7, 47), rfl, by decide, kw_46_6⟩, fun _ h => absurd h List.not_mem_nil⟩⟩⟩⟩⟩⟩⟩⟩⟩⟩⟩⟩⟩⟩⟩⟩⟩⟩⟩⟩⟩⟩⟩⟩⟩⟩⟩⟩⟩⟩⟩⟩⟩⟩⟩⟩⟩⟩⟩⟩⟩⟩⟩⟩⟩⟩
theorem xfl_ok10 : ∀ e ∈ xflL10, xFL 10 e := List.forall_mem_cons.mpr ⟨Or.inr ⟨rfl, kw_3_21⟩, List.forall_mem_cons.mpr ⟨Or.inr ⟨rfl, kw_4_3⟩, fun _ h => absurd h List.not_mem_nil⟩⟩
theorem xfl_all : ∀ p ∈ xflA, ∀ e ∈ p.2, xFL p.1 e := List.forall_mem_cons.mpr ⟨xfl_ok7, List.forall_mem_cons.mpr ⟨xfl_ok6, List.forall_mem_cons.mpr ⟨xfl_ok3, List.forall_mem_cons.mpr ⟨xfl_ok4, List.forall_mem_cons.mpr ⟨xfl_ok1, List.forall_mem_cons.mpr ⟨xfl_ok5, List.forall_mem_cons.mpr ⟨xfl_ok0, List.forall_mem_cons.mpr ⟨xfl_ok2, List.forall_mem_cons.mpr ⟨xfl_ok10, fun _ h => absurd h List.not_mem_nil⟩⟩⟩⟩⟩⟩⟩⟩⟩
theorem xfl_ok {own idx ci k : Nat} (h : xfl own idx = some (ci, k)) : xFL own (idx, ci, k) := by
  obtain ⟨l, h1, h2⟩ := xas2_mem h
  exact xfl_all _ h1 _ h2
def xGS (own : Nat) (e : Nat × Nat) : Prop := ∀ q, xStat[e.2]? = some q → Cond.fieldLink (xcn own) e.1 q.1 q.2.1 q.2.2.1 ∈ wsL_law
theorem xgs_all : ∀ p ∈ xgsA, ∀ e ∈ p.2, xGS p.1 e := List.forall_mem_cons.mpr ⟨(List.forall_mem_cons.mpr ⟨fun z hz => by cases hz; exact kw_12_5, List.forall_mem_cons.mpr ⟨fun z hz => by cases hz; exact kw_12_6, List.forall_mem_cons.mpr ⟨fun z hz => by cases hz; exact kw_49_2, fun _ h => absurd h List.not_mem_nil⟩⟩⟩), List.forall_mem_cons.mpr ⟨(List.forall_mem_cons.mpr ⟨fun z hz => by cases hz; exact kw_4_2, List.forall_mem_cons.mpr ⟨fun z hz => by cases hz; exact kw_4_19, fun _ h => absurd h List.not_mem_nil⟩⟩), fun _ h => absurd h List.not_mem_nil⟩⟩
theorem xgs_ok {own idx k : Nat} (h : xgs own idx = some k) : xGS own (idx, k) := by
  obtain ⟨l, h1, h2⟩ := xas2_mem h
  exact xgs_all _ h1 _ h2
def xKL (own : Nat) (e : Nat × Nat) : Prop := (e.2 = 104 ∧ Cond.classLink (xcn own) e.1 "[[I" ∈ wsL_law) ∨ ∃ q : vw_C, vwCl[e.2]? = some q ∧ Cond.classLink (xcn own) e.1 q.1 ∈ wsL_law ∧ Cond.instantiable q.1 q.2.2 ∈ wsL_law ∧ Cond.initialized q.1 ∈ wsL_law
theorem xkl_all : ∀ p ∈ xklA, ∀ e ∈ p.2, xKL p.1 e := List.forall_mem_cons.mpr ⟨(List.forall_mem_cons.mpr ⟨Or.inl ⟨rfl, kw_10_13⟩, fun _ h => absurd h List.not_mem_nil⟩), List.forall_mem_cons.mpr ⟨(List.forall_mem_cons.mpr ⟨Or.inr ⟨(RX4, TX4, 6), rfl, kw_1_12, kw_1_13, kw_1_14⟩, List.forall_mem_cons.mpr ⟨Or.inr ⟨(RX5, TX5, 5), rfl, kw_1_16, kw_2_0, kw_2_1⟩, List.forall_mem_cons.mpr ⟨Or.inr ⟨(RX0, TX0, 2), rfl, kw_1_18, kw_1_19, kw_1_20⟩, List.forall_mem_cons.mpr ⟨Or.inr ⟨(RX2, TX2, 3), rfl, kw_1_22, kw_2_2, kw_2_3⟩, List.forall_mem_cons.mpr ⟨Or.inr ⟨(RX1, TX1, 5), rfl, kw_2_4, kw_2_5, kw_2_6⟩, List.forall_mem_cons.mpr ⟨Or.inr ⟨(RX3, TX3, 9), rfl, kw_2_9, kw_2_10, kw_2_11⟩, fun _ h => absurd h List.not_mem_nil⟩⟩⟩⟩⟩⟩), fun _ h => absurd h List.not_mem_nil⟩⟩
theorem xkl_ok {own idx k : Nat} (h : xkl own idx = some k) : xKL own (idx, k) := by
  obtain ⟨l, h1, h2⟩ := xas2_mem h
  exact xkl_all _ h1 _ h2
theorem xco_all : ∀ p ∈ xcoA, ∀ e ∈ p.2, Cond.constant (xcn p.1) e.1 e.2 ∈ wsL_law := List.forall_mem_cons.mpr ⟨(List.forall_mem_cons.mpr ⟨kw_44_19, fun _ h => absurd h List.not_mem_nil⟩), List.forall_mem_cons.mpr ⟨(List.forall_mem_cons.mpr ⟨kw_45_4, fun _ h => absurd h List.not_mem_nil⟩), List.forall_mem_cons.mpr ⟨(List.forall_mem_cons.mpr ⟨kw_33_13, List.forall_mem_cons.mpr ⟨kw_33_14, List.forall_mem_cons.mpr ⟨kw_33_15, fun _ h => absurd h List.not_mem_nil⟩⟩⟩), fun _ h => absurd h List.not_mem_nil⟩⟩⟩
theorem xco_ok {own idx : Nat} {k : Int32} (h : xco own idx = some k) : Cond.constant (xcn own) idx k ∈ wsL_law := by
  obtain ⟨l, h1, h2⟩ := xas2_mem h
  exact xco_all _ h1 _ h2
theorem xcoL_all : ∀ p ∈ xcoLA, ∀ e ∈ p.2, Cond.constantLong (xcn p.1) e.1 e.2 ∈ wsL_law := List.forall_mem_cons.mpr ⟨(List.forall_mem_cons.mpr ⟨kw_45_9, fun _ h => absurd h List.not_mem_nil⟩), List.forall_mem_cons.mpr ⟨(List.forall_mem_cons.mpr ⟨kw_13_0, List.forall_mem_cons.mpr ⟨kw_13_12, List.forall_mem_cons.mpr ⟨kw_13_13, List.forall_mem_cons.mpr ⟨kw_13_14, List.forall_mem_cons.mpr ⟨kw_13_15, List.forall_mem_cons.mpr ⟨kw_13_20, List.forall_mem_cons.mpr ⟨kw_13_21, List.forall_mem_cons.mpr ⟨kw_13_22, List.forall_mem_cons.mpr ⟨kw_15_17, List.forall_mem_cons.mpr ⟨kw_15_18, List.forall_mem_cons.mpr ⟨kw_15_19, List.forall_mem_cons.mpr ⟨kw_15_20, List.forall_mem_cons.mpr ⟨kw_17_7, List.forall_mem_cons.mpr ⟨kw_18_12, List.forall_mem_cons.mpr ⟨kw_24_13, List.forall_mem_cons.mpr ⟨kw_28_0, List.forall_mem_cons.mpr ⟨kw_37_8, List.forall_mem_cons.mpr ⟨kw_37_9, List.forall_mem_cons.mpr ⟨kw_38_10, List.forall_mem_cons.mpr ⟨kw_39_19, List.forall_mem_cons.mpr ⟨kw_43_3, List.forall_mem_cons.mpr ⟨kw_45_18, List.forall_mem_cons.mpr ⟨kw_48_17, fun _ h => absurd h List.not_mem_nil⟩⟩⟩⟩⟩⟩⟩⟩⟩⟩⟩⟩⟩⟩⟩⟩⟩⟩⟩⟩⟩⟩⟩), fun _ h => absurd h List.not_mem_nil⟩⟩
theorem xcoL_ok {own idx : Nat} {k : Int64} (h : xcoL own idx = some k) : Cond.constantLong (xcn own) idx k ∈ wsL_law := by
  obtain ⟨l, h1, h2⟩ := xas2_mem h
  exact xcoL_all _ h1 _ h2
def xlen (I : Instr) : Nat := match I with
  | .iload _ => 2
  | .aload _ => 2
  | .lload _ => 2
  | .istore _ => 2
  | .astore _ => 2
  | .lstore _ => 2
  | .bipush _ => 2
  | .ldc _ => 2
  | .newarray _ => 2
  | .sipush _ => 3
  | .ldc_w _ => 3
  | .ldc2_w _ => 3
  | .if_icmp _ _ => 3
  | .ifCond _ _ => 3
  | .goto _ => 3
  | .iinc _ _ => 3
  | .getfield _ => 3
  | .putfield _ => 3
  | .getstatic _ => 3
  | .new _ => 3
  | .anewarray _ => 3
  | .invokestatic _ => 3
  | .invokevirtual _ => 3
  | .invokespecial _ => 3
  | .multianewarray _ _ => 4
  | .tableswitch _ _ _ _ => 0
  | .lookupswitch _ _ => 0
  | _ => 1
def xMIok (mi : xMI) : Prop := plainName mi.1.cls = true ∧ mi.1.cls = xcn mi.2.2.1 ∧ Cond.code mi.1 mi.2.1 mi.2.2.2.2.1 (xrt mi.2.2.2.2.2.1) ∈ wsL_law ∧ Cond.initialized mi.1.cls ∈ wsL_law ∧ (mi.1.cls ≠ "java/lang/invoke/MethodHandle" ∧ mi.1.cls ≠ "java/lang/invoke/VarHandle") ∧ (parseMethodDescriptor mi.1.desc).map (fun d => d.parameters.length) = some (if mi.2.2.2.2.2.2.1 = 0 then mi.2.2.2.1 else mi.2.2.2.1 - 1) ∧ mi.2.2.2.2.1 ≤ 13 ∧ (mi.2.2.2.2.2.2.1 = 0 → Cond.static mi.1 ∈ wsL_law) ∧ (mi.2.2.2.2.2.2.1 ≠ 0 → Cond.instanceMethod mi.1 ∈ wsL_law ∧ 1 ≤ mi.2.2.2.1) ∧ (mi.2.2.2.2.2.2.1 = 1 → Cond.selects mi.1.cls mi.1 mi.1 ∈ wsL_law) ∧ (mi.2.2.2.2.2.2.1 = 2 → mi.1.name = "<init>" ∧ mi.2.2.2.2.2.1 = 0) ∧ ∀ pc e, xfetch mi.2.2.2.2.2.2.2.2.2 pc = some e → decode mi.2.1 pc = .ok e ∧ (xlen e.1 = 0 ∨ e.2 = xlen e.1)
noncomputable def xchk (cc : ByteArray) (tb : xTb) : Bool := (List.range tb.length).all fun c => (List.range 8).all fun o => match xfetch tb (8 * c + o) with
  | none => true
  | some e => decide (decode cc (8 * c + o) = .ok e) && (xlen e.1 == 0 || e.2 == xlen e.1)
theorem xchk_ok {cc : ByteArray} {tb : xTb} (h : xchk cc tb = true) : ∀ pc e, xfetch tb pc = some e → decode cc pc = .ok e ∧ (xlen e.1 = 0 ∨ e.2 = xlen e.1) := by
  intro pc e he
  have hl : pc / 8 < tb.length := by
    unfold xfetch at he
    rw [xnth_eq] at he
    cases hq : tb[pc / 8]? with
    | none => rw [hq] at he; cases he
    | some l => exact (List.getElem?_eq_some_iff.mp hq).1
  have h1 := List.all_eq_true.mp (List.all_eq_true.mp h (pc / 8) (List.mem_range.mpr hl)) (pc % 8) (List.mem_range.mpr (Nat.mod_lt _ (by decide)))
  rw [show 8 * (pc / 8) + pc % 8 = pc from Nat.div_add_mod pc 8, he] at h1
  simp only [Bool.and_eq_true, Bool.or_eq_true, beq_iff_eq] at h1
  exact ⟨of_decide_eq_true h1.1, h1.2⟩
set_option maxRecDepth 100000 in
theorem xck0 : xchk cX0_init xt0 = true := by decide +kernel
set_option maxRecDepth 100000 in
theorem xck1 : xchk cX0_see xt1 = true := by decide +kernel
set_option maxRecDepth 100000 in
theorem xck2 : xchk cX0_everyone xt2 = true := by decide +kernel
set_option maxRecDepth 100000 in
theorem xck3 : xchk cX0_turn xt3 = true := by decide +kernel
set_option maxRecDepth 100000 in
theorem xck4 : xchk cX0_companies xt4 = true := by decide +kernel
set_option maxRecDepth 100000 in
theorem xck5 : xchk cX0_largestCompany xt5 = true := by decide +kernel
set_option maxRecDepth 100000 in
theorem xck6 : xchk cX0_distance xt6 = true := by decide +kernel
set_option maxRecDepth 100000 in
theorem xck7 : xchk cX0_longestWay xt7 = true := by decide +kernel
set_option maxRecDepth 100000 in
theorem xck8 : xchk cX0_companyOf xt8 = true := by decide +kernel
set_option maxRecDepth 100000 in
theorem xck9 : xchk cX0_further xt9 = true := by decide +kernel
set_option maxRecDepth 100000 in
theorem xck10 : xchk cX1_init xt10 = true := by decide +kernel
set_option maxRecDepth 100000 in
theorem xck11 : xchk cX1_readInto xt11 = true := by decide +kernel
set_option maxRecDepth 100000 in
theorem xck12 : xchk cX1_readPart xt12 = true := by decide +kernel
set_option maxRecDepth 100000 in
theorem xck13 : xchk cX1_read xt13 = true := by decide +kernel
set_option maxRecDepth 100000 in
theorem xck14 : xchk cX1_readOne xt14 = true := by decide +kernel
set_option maxRecDepth 100000 in
theorem xck15 : xchk cX1_opens xt15 = true := by decide +kernel
set_option maxRecDepth 100000 in
theorem xck16 : xchk cX1_expect xt16 = true := by decide +kernel
set_option maxRecDepth 100000 in
theorem xck17 : xchk cX1_next xt17 = true := by decide +kernel
set_option maxRecDepth 100000 in
theorem xck18 : xchk cX1_fail xt18 = true := by decide +kernel
set_option maxRecDepth 100000 in
theorem xck19 : xchk cX1_levelOf xt19 = true := by decide +kernel
set_option maxRecDepth 100000 in
theorem xck20 : xchk cX1_operationOf xt20 = true := by decide +kernel
set_option maxRecDepth 100000 in
theorem xck21 : xchk cX2_init xt21 = true := by decide +kernel
set_option maxRecDepth 100000 in
theorem xck22 : xchk cX2_isMissing xt22 = true := by decide +kernel
set_option maxRecDepth 100000 in
theorem xck23 : xchk cX2_lay xt23 = true := by decide +kernel
set_option maxRecDepth 100000 in
theorem xck24 : xchk cX2_holds xt24 = true := by decide +kernel
set_option maxRecDepth 100000 in
theorem xck25 : xchk cX2_put xt25 = true := by decide +kernel
set_option maxRecDepth 100000 in
theorem xck26 : xchk cX2_unlikeItems xt26 = true := by decide +kernel
set_option maxRecDepth 100000 in
theorem xck27 : xchk cX3_init xt27 = true := by decide +kernel
set_option maxRecDepth 100000 in
theorem xck28 : xchk cX3_become xt28 = true := by decide +kernel
set_option maxRecDepth 100000 in
theorem xck29 : xchk cX3_add xt29 = true := by decide +kernel
set_option maxRecDepth 100000 in
theorem xck30 : xchk cX3_tie xt30 = true := by decide +kernel
set_option maxRecDepth 100000 in
theorem xck31 : xchk cX3_knows xt31 = true := by decide +kernel
set_option maxRecDepth 100000 in
theorem xck32 : xchk cX3_acquaintances xt32 = true := by decide +kernel
set_option maxRecDepth 100000 in
theorem xck33 : xchk cX3_friends xt33 = true := by decide +kernel
set_option maxRecDepth 100000 in
theorem xck34 : xchk cX3_allStrength xt34 = true := by decide +kernel
set_option maxRecDepth 100000 in
theorem xck35 : xchk cX3_seatsAt xt35 = true := by decide +kernel
set_option maxRecDepth 100000 in
theorem xck36 : xchk cX3_seated xt36 = true := by decide +kernel
set_option maxRecDepth 100000 in
theorem xck37 : xchk cX3_meets xt37 = true := by decide +kernel
set_option maxRecDepth 100000 in
theorem xck38 : xchk cX3_forgets xt38 = true := by decide +kernel
set_option maxRecDepth 100000 in
theorem xck39 : xchk cX3_sounds xt39 = true := by decide +kernel
set_option maxRecDepth 100000 in
theorem xck40 : xchk cX3_look xt40 = true := by decide +kernel
set_option maxRecDepth 100000 in
theorem xck41 : xchk cX3_holdFeast xt41 = true := by decide +kernel
set_option maxRecDepth 100000 in
theorem xck42 : xchk cX3_endYear xt42 = true := by decide +kernel
set_option maxRecDepth 100000 in
theorem xck43 : xchk cX3_pass xt43 = true := by decide +kernel
set_option maxRecDepth 100000 in
theorem xck44 : xchk cX3_quietTable xt44 = true := by decide +kernel
set_option maxRecDepth 100000 in
theorem xck45 : xchk cX3_dinAt xt45 = true := by decide +kernel
set_option maxRecDepth 100000 in
theorem xck46 : xchk cX4_init xt46 = true := by decide +kernel
set_option maxRecDepth 100000 in
theorem xck47 : xchk cX4_put xt47 = true := by decide +kernel
set_option maxRecDepth 100000 in
theorem xck48 : xchk cX4_empty xt48 = true := by decide +kernel
set_option maxRecDepth 100000 in
theorem xck49 : xchk cX4_cut xt49 = true := by decide +kernel
set_option maxRecDepth 100000 in
theorem xck50 : xchk cX4_cutNumber xt50 = true := by decide +kernel
set_option maxRecDepth 100000 in
theorem xck51 : xchk cX4_cutWord xt51 = true := by decide +kernel
set_option maxRecDepth 100000 in
theorem xck52 : xchk cX4_nameFrom xt52 = true := by decide +kernel
set_option maxRecDepth 100000 in
theorem xck53 : xchk cX4_keyFrom xt53 = true := by decide +kernel
set_option maxRecDepth 100000 in
theorem xck54 : xchk cX4_reads xt54 = true := by decide +kernel
set_option maxRecDepth 100000 in
theorem xck55 : xchk cX4_isBlank xt55 = true := by decide +kernel
set_option maxRecDepth 100000 in
theorem xck56 : xchk cX4_isDigit xt56 = true := by decide +kernel
set_option maxRecDepth 100000 in
theorem xck57 : xchk cX4_isSmall xt57 = true := by decide +kernel
set_option maxRecDepth 100000 in
theorem xck58 : xchk cX5_init xt58 = true := by decide +kernel
set_option maxRecDepth 100000 in
theorem xck59 : xchk cX5_clear xt59 = true := by decide +kernel
set_option maxRecDepth 100000 in
theorem xck60 : xchk cX5_write xt60 = true := by decide +kernel
set_option maxRecDepth 100000 in
theorem xck61 : xchk cX5_endPart xt61 = true := by decide +kernel
set_option maxRecDepth 100000 in
theorem xck62 : xchk cX5_value xt62 = true := by decide +kernel
set_option maxRecDepth 100000 in
theorem xck63 : xchk cX5_turned xt63 = true := by decide +kernel
set_option maxRecDepth 100000 in
theorem xck64 : xchk cX5_joined xt64 = true := by decide +kernel
set_option maxRecDepth 100000 in
theorem xck65 : xchk cX6_init xt65 = true := by decide +kernel
set_option maxRecDepth 100000 in
theorem xck66 : xchk cX6_set xt66 = true := by decide +kernel
set_option maxRecDepth 100000 in
theorem xck67 : xchk cX6_house xt67 = true := by decide +kernel
set_option maxRecDepth 100000 in
theorem xck68 : xchk cX6_bind xt68 = true := by decide +kernel
set_option maxRecDepth 100000 in
theorem xck69 : xchk cX6_told xt69 = true := by decide +kernel
set_option maxRecDepth 100000 in
theorem xck70 : xchk cX6_feed xt70 = true := by decide +kernel
set_option maxRecDepth 100000 in
theorem xck71 : xchk cX6_text xt71 = true := by decide +kernel
set_option maxRecDepth 100000 in
theorem xck72 : xchk cX6_force xt72 = true := by decide +kernel
set_option maxRecDepth 100000 in
theorem xck73 : xchk cX6_asks xt73 = true := by decide +kernel
set_option maxRecDepth 100000 in
theorem xck74 : xchk cX6_feast xt74 = true := by decide +kernel
set_option maxRecDepth 100000 in
theorem xck75 : xchk cX6_year xt75 = true := by decide +kernel
set_option maxRecDepth 100000 in
theorem xck76 : xchk cX6_street xt76 = true := by decide +kernel
set_option maxRecDepth 100000 in
theorem xck77 : xchk cX6_way xt77 = true := by decide +kernel
set_option maxRecDepth 100000 in
theorem xck78 : xchk cX6_run xt78 = true := by decide +kernel
set_option maxRecDepth 100000 in
theorem xck79 : xchk cX6_takes xt79 = true := by decide +kernel
set_option maxRecDepth 100000 in
theorem xck80 : xchk cX6_best xt80 = true := by decide +kernel
set_option maxRecDepth 100000 in
theorem xck81 : xchk cX6_change xt81 = true := by decide +kernel
set_option maxRecDepth 100000 in
theorem xck82 : xchk cX6_split xt82 = true := by decide +kernel
set_option maxRecDepth 100000 in
theorem xck83 : xchk cX6_missed xt83 = true := by decide +kernel
set_option maxRecDepth 100000 in
theorem xck84 : xchk cX6_match xt84 = true := by decide +kernel
set_option maxRecDepth 100000 in
theorem xck85 : xchk cX6_tells xt85 = true := by decide +kernel
set_option maxRecDepth 100000 in
theorem xck86 : xchk cX6_film xt86 = true := by decide +kernel
set_option maxRecDepth 100000 in
theorem xck87 : xchk cX6_drawn xt87 = true := by decide +kernel
set_option maxRecDepth 100000 in
theorem xck88 : xchk cX6_chance xt88 = true := by decide +kernel
set_option maxRecDepth 100000 in
theorem xck89 : xchk cX6_image xt89 = true := by decide +kernel
set_option maxRecDepth 100000 in
theorem xck90 : xchk cX6_back xt90 = true := by decide +kernel
set_option maxRecDepth 100000 in
theorem xck91 : xchk cX6_count xt91 = true := by decide +kernel
set_option maxRecDepth 100000 in
theorem xck92 : xchk cX6_sheet xt92 = true := by decide +kernel
set_option maxRecDepth 100000 in
theorem xck93 : xchk cX6_cell xt93 = true := by decide +kernel
set_option maxRecDepth 100000 in
theorem xck94 : xchk cX6_copy xt94 = true := by decide +kernel
set_option maxRecDepth 100000 in
theorem xck95 : xchk cX6_houses xt95 = true := by decide +kernel
set_option maxRecDepth 100000 in
theorem xck96 : xchk cX6_taken xt96 = true := by decide +kernel
set_option maxRecDepth 100000 in
theorem xck97 : xchk cX6_isHouse xt97 = true := by decide +kernel
set_option maxRecDepth 100000 in
theorem xck98 : xchk cX6_isTwo xt98 = true := by decide +kernel
set_option maxRecDepth 100000 in
theorem xck99 : xchk cX6_isSheet xt99 = true := by decide +kernel
set_option maxRecDepth 100000 in
theorem xck100 : xchk cX6_isSort xt100 = true := by decide +kernel
set_option maxRecDepth 100000 in
theorem xck101 : xchk cX6_isYears xt101 = true := by decide +kernel
set_option maxRecDepth 100000 in
theorem xck102 : xchk cX6_isFriends xt102 = true := by decide +kernel
set_option maxRecDepth 100000 in
theorem xck103 : xchk cX6_isEither xt103 = true := by decide +kernel
set_option maxRecDepth 100000 in
theorem xck104 : xchk cX6_isUnder xt104 = true := by decide +kernel
set_option maxRecDepth 100000 in
theorem xck105 : xchk cX6_setting xt105 = true := by decide +kernel
set_option maxRecDepth 100000 in
theorem xck106 : xchk cX6_settle xt106 = true := by decide +kernel
set_option maxRecDepth 100000 in
theorem xck107 : xchk cX6_figure xt107 = true := by decide +kernel
set_option maxRecDepth 100000 in
theorem xck108 : xchk cX6_canChange xt108 = true := by decide +kernel
set_option maxRecDepth 100000 in
theorem xck109 : xchk cX6_friendsDrawn xt109 = true := by decide +kernel
set_option maxRecDepth 100000 in
theorem xck110 : xchk cX6_commonDivisor xt110 = true := by decide +kernel
set_option maxRecDepth 100000 in
theorem xck111 : xchk cX6_otherwise xt111 = true := by decide +kernel
set_option maxRecDepth 100000 in
theorem xck112 : xchk cX6_possible xt112 = true := by decide +kernel
set_option maxRecDepth 100000 in
theorem xck113 : xchk cX6_choices xt113 = true := by decide +kernel
set_option maxRecDepth 100000 in
theorem xck114 : xchk cX6_suppose xt114 = true := by decide +kernel
set_option maxRecDepth 100000 in
theorem xck115 : xchk cX6_limits xt115 = true := by decide +kernel
set_option maxRecDepth 100000 in
theorem xck116 : xchk cX6_leastLimit xt116 = true := by decide +kernel
set_option maxRecDepth 100000 in
theorem xck117 : xchk cX6_fits xt117 = true := by decide +kernel
set_option maxRecDepth 100000 in
theorem xck118 : xchk cX7_in xt118 = true := by decide +kernel
set_option maxRecDepth 100000 in
theorem xck119 : xchk cX7_within xt119 = true := by decide +kernel
set_option maxRecDepth 100000 in
theorem xck120 : xchk cX7_init xt120 = true := by decide +kernel
set_option maxRecDepth 100000 in
theorem xck121 : xchk cX7_spell xt121 = true := by decide +kernel
set_option maxRecDepth 100000 in
theorem xck122 : xchk cX7_isHouse xt122 = true := by decide +kernel
set_option maxRecDepth 100000 in
theorem xck123 : xchk cX7_isValue xt123 = true := by decide +kernel
set_option maxRecDepth 100000 in
theorem xck124 : xchk cX7_set xt124 = true := by decide +kernel
set_option maxRecDepth 100000 in
theorem xck125 : xchk cX7_lays xt125 = true := by decide +kernel
set_option maxRecDepth 100000 in
theorem xck126 : xchk cX7_strengthOf xt126 = true := by decide +kernel
set_option maxRecDepth 100000 in
theorem xck127 : xchk cX7_binds xt127 = true := by decide +kernel
set_option maxRecDepth 100000 in
theorem xck128 : xchk cX7_house xt128 = true := by decide +kernel
set_option maxRecDepth 100000 in
theorem xck129 : xchk cX7_areTwo xt129 = true := by decide +kernel
set_option maxRecDepth 100000 in
theorem xck130 : xchk cX7_bind xt130 = true := by decide +kernel
set_option maxRecDepth 100000 in
theorem xck131 : xchk cX7_told xt131 = true := by decide +kernel
set_option maxRecDepth 100000 in
theorem xck132 : xchk cX7_seatsOf xt132 = true := by decide +kernel
set_option maxRecDepth 100000 in
theorem xck133 : xchk cX7_feed xt133 = true := by decide +kernel
set_option maxRecDepth 100000 in
theorem xck134 : xchk cX7_byteAt xt134 = true := by decide +kernel
set_option maxRecDepth 100000 in
theorem xck135 : xchk cX7_next xt135 = true := by decide +kernel
set_option maxRecDepth 100000 in
theorem xck136 : xchk cX7_fail xt136 = true := by decide +kernel
set_option maxRecDepth 100000 in
theorem xck137 : xchk cX7_isLetter xt137 = true := by decide +kernel
set_option maxRecDepth 100000 in
theorem xck138 : xchk cX7_isWord xt138 = true := by decide +kernel
set_option maxRecDepth 100000 in
theorem xck139 : xchk cX7_isSign xt139 = true := by decide +kernel
set_option maxRecDepth 100000 in
theorem xck140 : xchk cX7_opens xt140 = true := by decide +kernel
set_option maxRecDepth 100000 in
theorem xck141 : xchk cX7_name xt141 = true := by decide +kernel
set_option maxRecDepth 100000 in
theorem xck142 : xchk cX7_atom5 xt142 = true := by decide +kernel
set_option maxRecDepth 100000 in
theorem xck143 : xchk cX7_term5 xt143 = true := by decide +kernel
set_option maxRecDepth 100000 in
theorem xck144 : xchk cX7_added5 xt144 = true := by decide +kernel
set_option maxRecDepth 100000 in
theorem xck145 : xchk cX7_not5 xt145 = true := by decide +kernel
set_option maxRecDepth 100000 in
theorem xck146 : xchk cX7_both5 xt146 = true := by decide +kernel
set_option maxRecDepth 100000 in
theorem xck147 : xchk cX7_either5 xt147 = true := by decide +kernel
set_option maxRecDepth 100000 in
theorem xck148 : xchk cX7_atom4 xt148 = true := by decide +kernel
set_option maxRecDepth 100000 in
theorem xck149 : xchk cX7_term4 xt149 = true := by decide +kernel
set_option maxRecDepth 100000 in
theorem xck150 : xchk cX7_added4 xt150 = true := by decide +kernel
set_option maxRecDepth 100000 in
theorem xck151 : xchk cX7_not4 xt151 = true := by decide +kernel
set_option maxRecDepth 100000 in
theorem xck152 : xchk cX7_both4 xt152 = true := by decide +kernel
set_option maxRecDepth 100000 in
theorem xck153 : xchk cX7_either4 xt153 = true := by decide +kernel
set_option maxRecDepth 100000 in
theorem xck154 : xchk cX7_atom3 xt154 = true := by decide +kernel
set_option maxRecDepth 100000 in
theorem xck155 : xchk cX7_term3 xt155 = true := by decide +kernel
set_option maxRecDepth 100000 in
theorem xck156 : xchk cX7_added3 xt156 = true := by decide +kernel
set_option maxRecDepth 100000 in
theorem xck157 : xchk cX7_not3 xt157 = true := by decide +kernel
set_option maxRecDepth 100000 in
theorem xck158 : xchk cX7_both3 xt158 = true := by decide +kernel
set_option maxRecDepth 100000 in
theorem xck159 : xchk cX7_either3 xt159 = true := by decide +kernel
set_option maxRecDepth 100000 in
theorem xck160 : xchk cX7_atom2 xt160 = true := by decide +kernel
set_option maxRecDepth 100000 in
theorem xck161 : xchk cX7_term2 xt161 = true := by decide +kernel
set_option maxRecDepth 100000 in
theorem xck162 : xchk cX7_added2 xt162 = true := by decide +kernel
set_option maxRecDepth 100000 in
theorem xck163 : xchk cX7_not2 xt163 = true := by decide +kernel
set_option maxRecDepth 100000 in
theorem xck164 : xchk cX7_both2 xt164 = true := by decide +kernel
set_option maxRecDepth 100000 in
theorem xck165 : xchk cX7_either2 xt165 = true := by decide +kernel
set_option maxRecDepth 100000 in
theorem xck166 : xchk cX7_atom1 xt166 = true := by decide +kernel
set_option maxRecDepth 100000 in
theorem xck167 : xchk cX7_term1 xt167 = true := by decide +kernel
set_option maxRecDepth 100000 in
theorem xck168 : xchk cX7_added1 xt168 = true := by decide +kernel
set_option maxRecDepth 100000 in
theorem xck169 : xchk cX7_not1 xt169 = true := by decide +kernel
set_option maxRecDepth 100000 in
theorem xck170 : xchk cX7_both1 xt170 = true := by decide +kernel
set_option maxRecDepth 100000 in
theorem xck171 : xchk cX7_either1 xt171 = true := by decide +kernel
set_option maxRecDepth 100000 in
theorem xck172 : xchk cX7_atom0 xt172 = true := by decide +kernel
set_option maxRecDepth 100000 in
theorem xck173 : xchk cX7_term0 xt173 = true := by decide +kernel
set_option maxRecDepth 100000 in
theorem xck174 : xchk cX7_added0 xt174 = true := by decide +kernel
set_option maxRecDepth 100000 in
theorem xck175 : xchk cX7_not0 xt175 = true := by decide +kernel
set_option maxRecDepth 100000 in
theorem xck176 : xchk cX7_both0 xt176 = true := by decide +kernel
set_option maxRecDepth 100000 in
theorem xck177 : xchk cX7_either0 xt177 = true := by decide +kernel
set_option maxRecDepth 100000 in
theorem xck178 : xchk cX7_part xt178 = true := by decide +kernel
set_option maxRecDepth 100000 in
theorem xck179 : xchk cX7_read xt179 = true := by decide +kernel
set_option maxRecDepth 100000 in
theorem xck180 : xchk cX7_text xt180 = true := by decide +kernel
set_option maxRecDepth 100000 in
theorem xck181 : xchk cX7_force xt181 = true := by decide +kernel
set_option maxRecDepth 100000 in
theorem xck182 : xchk cX7_says xt182 = true := by decide +kernel
set_option maxRecDepth 100000 in
theorem xck183 : xchk cX7_apart xt183 = true := by decide +kernel
set_option maxRecDepth 100000 in
theorem xck184 : xchk cX7_meetsOf xt184 = true := by decide +kernel
set_option maxRecDepth 100000 in
theorem xck185 : xchk cX7_fadesOf xt185 = true := by decide +kernel
set_option maxRecDepth 100000 in
theorem xck186 : xchk cX7_soundsOf xt186 = true := by decide +kernel
set_option maxRecDepth 100000 in
theorem xck187 : xchk cX7_asks xt187 = true := by decide +kernel
set_option maxRecDepth 100000 in
theorem xck188 : xchk cX7_feasts xt188 = true := by decide +kernel
set_option maxRecDepth 100000 in
theorem xck189 : xchk cX7_fades xt189 = true := by decide +kernel
set_option maxRecDepth 100000 in
theorem xck190 : xchk cX7_feast xt190 = true := by decide +kernel
set_option maxRecDepth 100000 in
theorem xck191 : xchk cX7_year xt191 = true := by decide +kernel
set_option maxRecDepth 100000 in
theorem xck192 : xchk cX7_knows xt192 = true := by decide +kernel
set_option maxRecDepth 100000 in
theorem xck193 : xchk cX7_friends xt193 = true := by decide +kernel
set_option maxRecDepth 100000 in
theorem xck194 : xchk cX7_waysAll xt194 = true := by decide +kernel
set_option maxRecDepth 100000 in
theorem xck195 : xchk cX7_companies xt195 = true := by decide +kernel
set_option maxRecDepth 100000 in
theorem xck196 : xchk cX7_largest xt196 = true := by decide +kernel
set_option maxRecDepth 100000 in
theorem xck197 : xchk cX7_longest xt197 = true := by decide +kernel
set_option maxRecDepth 100000 in
theorem xck198 : xchk cX7_strengthAll xt198 = true := by decide +kernel
set_option maxRecDepth 100000 in
theorem xck199 : xchk cX7_quietest xt199 = true := by decide +kernel
set_option maxRecDepth 100000 in
theorem xck200 : xchk cX7_tellsOf xt200 = true := by decide +kernel
set_option maxRecDepth 100000 in
theorem xck201 : xchk cX7_street xt201 = true := by decide +kernel
set_option maxRecDepth 100000 in
theorem xck202 : xchk cX7_way xt202 = true := by decide +kernel
set_option maxRecDepth 100000 in
theorem xck203 : xchk cX7_laysAside xt203 = true := by decide +kernel
set_option maxRecDepth 100000 in
theorem xck204 : xchk cX7_laysBack xt204 = true := by decide +kernel
set_option maxRecDepth 100000 in
theorem xck205 : xchk cX7_lives xt205 = true := by decide +kernel
set_option maxRecDepth 100000 in
theorem xck206 : xchk cX7_run xt206 = true := by decide +kernel
set_option maxRecDepth 100000 in
theorem xck207 : xchk cX7_friendsBehind xt207 = true := by decide +kernel
set_option maxRecDepth 100000 in
theorem xck208 : xchk cX7_takes xt208 = true := by decide +kernel
set_option maxRecDepth 100000 in
theorem xck209 : xchk cX7_best xt209 = true := by decide +kernel
set_option maxRecDepth 100000 in
theorem xck210 : xchk cX7_change xt210 = true := by decide +kernel
set_option maxRecDepth 100000 in
theorem xck211 : xchk cX7_clears xt211 = true := by decide +kernel
set_option maxRecDepth 100000 in
theorem xck212 : xchk cX7_sitsAgain xt212 = true := by decide +kernel
set_option maxRecDepth 100000 in
theorem xck213 : xchk cX7_split xt213 = true := by decide +kernel
set_option maxRecDepth 100000 in
theorem xck214 : xchk cX7_missed xt214 = true := by decide +kernel
set_option maxRecDepth 100000 in
theorem xck215 : xchk cX7_match xt215 = true := by decide +kernel
set_option maxRecDepth 100000 in
theorem xck216 : xchk cX7_unlike xt216 = true := by decide +kernel
set_option maxRecDepth 100000 in
theorem xck217 : xchk cX7_limitsBy xt217 = true := by decide +kernel
set_option maxRecDepth 100000 in
theorem xck218 : xchk cX7_tells xt218 = true := by decide +kernel
set_option maxRecDepth 100000 in
theorem xck219 : xchk cX7_film xt219 = true := by decide +kernel
set_option maxRecDepth 100000 in
theorem xck220 : xchk cX7_friendsBy xt220 = true := by decide +kernel
set_option maxRecDepth 100000 in
theorem xck221 : xchk cX7_drawn xt221 = true := by decide +kernel
set_option maxRecDepth 100000 in
theorem xck222 : xchk cX7_chance xt222 = true := by decide +kernel
set_option maxRecDepth 100000 in
theorem xck223 : xchk cX7_image xt223 = true := by decide +kernel
set_option maxRecDepth 100000 in
theorem xck224 : xchk cX7_back xt224 = true := by decide +kernel
set_option maxRecDepth 100000 in
theorem xck225 : xchk cX7_count xt225 = true := by decide +kernel
set_option maxRecDepth 100000 in
theorem xck226 : xchk cX7_isSheet xt226 = true := by decide +kernel
set_option maxRecDepth 100000 in
theorem xck227 : xchk cX7_sheet xt227 = true := by decide +kernel
set_option maxRecDepth 100000 in
theorem xck228 : xchk cX7_cell xt228 = true := by decide +kernel
set_option maxRecDepth 100000 in
theorem xck229 : xchk cX7_copy xt229 = true := by decide +kernel
set_option maxRecDepth 100000 in
theorem xck230 : xchk cX7_houses xt230 = true := by decide +kernel
set_option maxRecDepth 100000 in
theorem xck231 : xchk cX7_over xt231 = true := by decide +kernel
set_option maxRecDepth 100000 in
theorem xck232 : xchk cX7_taken xt232 = true := by decide +kernel
set_option maxRecDepth 100000 in
theorem xck233 : xchk cJ6_bitCount_0f7a4 xt233 = true := by decide +kernel
set_option maxRecDepth 100000 in
theorem xck234 : xchk cJ0_length_8abf5 xt234 = true := by decide +kernel
set_option maxRecDepth 100000 in
theorem xck235 : xchk cJ0_charAt_5068e xt235 = true := by decide +kernel
set_option maxRecDepth 100000 in
theorem xck236 : xchk cJ0_coder_7d493 xt236 = true := by decide +kernel
set_option maxRecDepth 100000 in
theorem xck237 : xchk cJ0_isLatin1_aae02 xt237 = true := by decide +kernel
set_option maxRecDepth 100000 in
theorem xck238 : xchk cJ0_checkIndex_df160 xt238 = true := by decide +kernel
set_option maxRecDepth 100000 in
theorem xck239 : xchk cJ1_charAt_3b067 xt239 = true := by decide +kernel
set_option maxRecDepth 100000 in
theorem xck240 : xchk cJ2_getChar_3b067 xt240 = true := by decide +kernel
set_option maxRecDepth 100000 in
theorem xck241 : xchk cJ2_length_9d52b xt241 = true := by decide +kernel
set_option maxRecDepth 100000 in
theorem xck242 : xchk cJ2_charAt_3b067 xt242 = true := by decide +kernel
set_option maxRecDepth 100000 in
theorem xck243 : xchk cJ2_checkIndex_2214a xt243 = true := by decide +kernel
set_option maxRecDepth 100000 in
theorem xck244 : xchk cJ3_checkIndex_8e157 xt244 = true := by decide +kernel
theorem xm0 : xMIok (yX0_init, cX0_init, 0, 1, 1, 0, 2, 1, 8, xt0) := ⟨by decide +kernel, rfl, kw_3_0, kw_1_20, by decide +kernel, by decide +kernel, by decide, fun h => absurd h (by decide), fun _ => ⟨kw_2_23, by decide⟩, fun h => absurd h (by decide), fun _ => ⟨rfl, rfl⟩, xchk_ok xck0⟩
theorem xm1 : xMIok (yX0_see, cX0_see, 0, 2, 4, 0, 1, 0, 0, xt1) := ⟨by decide +kernel, rfl, kw_32_7, kw_1_20, by decide +kernel, by decide +kernel, by decide, fun h => absurd h (by decide), fun _ => ⟨kw_32_5, by decide⟩, fun _ => kw_32_6, fun h => absurd h (by decide), xchk_ok xck1⟩
theorem xm2 : xMIok (yX0_everyone, cX0_everyone, 0, 1, 1, 1, 1, 0, 0, xt2) := ⟨by decide +kernel, rfl, kw_32_14, kw_1_20, by decide +kernel, by decide +kernel, by decide, fun h => absurd h (by decide), fun _ => ⟨kw_32_12, by decide⟩, fun _ => kw_32_13, fun h => absurd h (by decide), xchk_ok xck2⟩
theorem xm3 : xMIok (yX0_turn, cX0_turn, 0, 3, 3, 0, 1, 0, 0, xt3) := ⟨by decide +kernel, rfl, kw_40_20, kw_1_20, by decide +kernel, by decide +kernel, by decide, fun h => absurd h (by decide), fun _ => ⟨kw_40_18, by decide⟩, fun _ => kw_40_19, fun h => absurd h (by decide), xchk_ok xck3⟩
theorem xm4 : xMIok (yX0_companies, cX0_companies, 0, 2, 5, 1, 1, 0, 0, xt4) := ⟨by decide +kernel, rfl, kw_32_18, kw_1_20, by decide +kernel, by decide +kernel, by decide, fun h => absurd h (by decide), fun _ => ⟨kw_32_16, by decide⟩, fun _ => kw_32_17, fun h => absurd h (by decide), xchk_ok xck4⟩
theorem xm5 : xMIok (yX0_largestCompany, cX0_largestCompany, 0, 1, 3, 1, 1, 0, 0, xt5) := ⟨by decide +kernel, rfl, kw_33_6, kw_1_20, by decide +kernel, by decide +kernel, by decide, fun h => absurd h (by decide), fun _ => ⟨kw_33_4, by decide⟩, fun _ => kw_33_5, fun h => absurd h (by decide), xchk_ok xck5⟩
theorem xm6 : xMIok (yX0_distance, cX0_distance, 0, 3, 5, 1, 1, 0, 0, xt6) := ⟨by decide +kernel, rfl, kw_34_3, kw_1_20, by decide +kernel, by decide +kernel, by decide, fun h => absurd h (by decide), fun _ => ⟨kw_34_1, by decide⟩, fun _ => kw_34_2, fun h => absurd h (by decide), xchk_ok xck6⟩
theorem xm7 : xMIok (yX0_longestWay, cX0_longestWay, 0, 2, 6, 1, 1, 0, 0, xt7) := ⟨by decide +kernel, rfl, kw_33_23, kw_1_20, by decide +kernel, by decide +kernel, by decide, fun h => absurd h (by decide), fun _ => ⟨kw_33_21, by decide⟩, fun _ => kw_33_22, fun h => absurd h (by decide), xchk_ok xck7⟩
theorem xm8 : xMIok (yX0_companyOf, cX0_companyOf, 0, 3, 5, 1, 1, 0, 0, xt8) := ⟨by decide +kernel, rfl, kw_32_22, kw_1_20, by decide +kernel, by decide +kernel, by decide, fun h => absurd h (by decide), fun _ => ⟨kw_32_20, by decide⟩, fun _ => kw_32_21, fun h => absurd h (by decide), xchk_ok xck8⟩
theorem xm9 : xMIok (yX0_further, cX0_further, 0, 2, 4, 1, 1, 0, 0, xt9) := ⟨by decide +kernel, rfl, kw_33_2, kw_1_20, by decide +kernel, by decide +kernel, by decide, fun h => absurd h (by decide), fun _ => ⟨kw_33_0, by decide⟩, fun _ => kw_33_1, fun h => absurd h (by decide), xchk_ok xck9⟩
theorem xm10 : xMIok (yX1_init, cX1_init, 1, 3, 3, 0, 2, 0, 0, xt10) := ⟨by decide +kernel, rfl, kw_6_0, kw_2_6, by decide +kernel, by decide +kernel, by decide, fun h => absurd h (by decide), fun _ => ⟨kw_5_23, by decide⟩, fun h => absurd h (by decide), fun _ => ⟨rfl, rfl⟩, xchk_ok xck10⟩
theorem xm11 : xMIok (yX1_readInto, cX1_readInto, 1, 2, 2, 1, 1, 0, 0, xt11) := ⟨by decide +kernel, rfl, kw_6_7, kw_2_6, by decide +kernel, by decide +kernel, by decide, fun h => absurd h (by decide), fun _ => ⟨kw_6_5, by decide⟩, fun _ => kw_6_6, fun h => absurd h (by decide), xchk_ok xck11⟩
theorem xm12 : xMIok (yX1_readPart, cX1_readPart, 1, 3, 3, 0, 1, 0, 0, xt12) := ⟨by decide +kernel, rfl, kw_8_8, kw_2_6, by decide +kernel, by decide +kernel, by decide, fun h => absurd h (by decide), fun _ => ⟨kw_8_6, by decide⟩, fun _ => kw_8_7, fun h => absurd h (by decide), xchk_ok xck12⟩
theorem xm13 : xMIok (yX1_read, cX1_read, 1, 3, 6, 0, 1, 0, 0, xt13) := ⟨by decide +kernel, rfl, kw_9_1, kw_2_6, by decide +kernel, by decide +kernel, by decide, fun h => absurd h (by decide), fun _ => ⟨kw_8_23, by decide⟩, fun _ => kw_9_0, fun h => absurd h (by decide), xchk_ok xck13⟩
theorem xm14 : xMIok (yX1_readOne, cX1_readOne, 1, 2, 2, 0, 1, 0, 0, xt14) := ⟨by decide +kernel, rfl, kw_9_19, kw_2_6, by decide +kernel, by decide +kernel, by decide, fun h => absurd h (by decide), fun _ => ⟨kw_9_3, by decide⟩, fun _ => kw_9_4, fun h => absurd h (by decide), xchk_ok xck14⟩
theorem xm15 : xMIok (yX1_opens, cX1_opens, 1, 2, 2, 3, 1, 0, 0, xt15) := ⟨by decide +kernel, rfl, kw_9_8, kw_2_6, by decide +kernel, by decide +kernel, by decide, fun h => absurd h (by decide), fun _ => ⟨kw_9_6, by decide⟩, fun _ => kw_9_7, fun h => absurd h (by decide), xchk_ok xck15⟩
theorem xm16 : xMIok (yX1_expect, cX1_expect, 1, 2, 2, 0, 1, 0, 0, xt16) := ⟨by decide +kernel, rfl, kw_8_12, kw_2_6, by decide +kernel, by decide +kernel, by decide, fun h => absurd h (by decide), fun _ => ⟨kw_8_10, by decide⟩, fun _ => kw_8_11, fun h => absurd h (by decide), xchk_ok xck16⟩
theorem xm17 : xMIok (yX1_next, cX1_next, 1, 1, 1, 0, 1, 0, 0, xt17) := ⟨by decide +kernel, rfl, kw_8_16, kw_2_6, by decide +kernel, by decide +kernel, by decide, fun h => absurd h (by decide), fun _ => ⟨kw_8_14, by decide⟩, fun _ => kw_8_15, fun h => absurd h (by decide), xchk_ok xck17⟩
theorem xm18 : xMIok (yX1_fail, cX1_fail, 1, 1, 1, 0, 1, 0, 0, xt18) := ⟨by decide +kernel, rfl, kw_8_20, kw_2_6, by decide +kernel, by decide +kernel, by decide, fun h => absurd h (by decide), fun _ => ⟨kw_8_18, by decide⟩, fun _ => kw_8_19, fun h => absurd h (by decide), xchk_ok xck18⟩
theorem xm19 : xMIok (yX1_levelOf, cX1_levelOf, 1, 1, 1, 1, 0, 0, 0, xt19) := ⟨by decide +kernel, rfl, kw_9_15, kw_2_6, by decide +kernel, by decide +kernel, by decide, fun _ => kw_9_14, fun h => absurd rfl h, fun h => absurd h (by decide), fun h => absurd h (by decide), xchk_ok xck19⟩
theorem xm20 : xMIok (yX1_operationOf, cX1_operationOf, 1, 1, 1, 1, 0, 0, 0, xt20) := ⟨by decide +kernel, rfl, kw_9_18, kw_2_6, by decide +kernel, by decide +kernel, by decide, fun _ => kw_9_17, fun h => absurd rfl h, fun h => absurd h (by decide), fun h => absurd h (by decide), xchk_ok xck20⟩
theorem xm21 : xMIok (yX2_init, cX2_init, 2, 1, 1, 0, 2, 1, 40, xt21) := ⟨by decide +kernel, rfl, kw_3_12, kw_2_3, by decide +kernel, by decide +kernel, by decide, fun h => absurd h (by decide), fun _ => ⟨kw_3_11, by decide⟩, fun h => absurd h (by decide), fun _ => ⟨rfl, rfl⟩, xchk_ok xck21⟩
theorem xm22 : xMIok (yX2_isMissing, cX2_isMissing, 2, 1, 1, 3, 1, 0, 0, xt22) := ⟨by decide +kernel, rfl, kw_41_12, kw_2_3, by decide +kernel, by decide +kernel, by decide, fun h => absurd h (by decide), fun _ => ⟨kw_41_10, by decide⟩, fun _ => kw_41_11, fun h => absurd h (by decide), xchk_ok xck22⟩
theorem xm23 : xMIok (yX2_lay, cX2_lay, 2, 3, 4, 0, 1, 0, 0, xt23) := ⟨by decide +kernel, rfl, kw_43_22, kw_2_3, by decide +kernel, by decide +kernel, by decide, fun h => absurd h (by decide), fun _ => ⟨kw_43_20, by decide⟩, fun _ => kw_43_21, fun h => absurd h (by decide), xchk_ok xck23⟩
theorem xm24 : xMIok (yX2_holds, cX2_holds, 2, 3, 3, 3, 1, 0, 0, xt24) := ⟨by decide +kernel, rfl, kw_47_18, kw_2_3, by decide +kernel, by decide +kernel, by decide, fun h => absurd h (by decide), fun _ => ⟨kw_47_16, by decide⟩, fun _ => kw_47_17, fun h => absurd h (by decide), xchk_ok xck24⟩
theorem xm25 : xMIok (yX2_put, cX2_put, 2, 3, 3, 0, 1, 0, 0, xt25) := ⟨by decide +kernel, rfl, kw_44_2, kw_2_3, by decide +kernel, by decide +kernel, by decide, fun h => absurd h (by decide), fun _ => ⟨kw_44_0, by decide⟩, fun _ => kw_44_1, fun h => absurd h (by decide), xchk_ok xck25⟩
theorem xm26 : xMIok (yX2_unlikeItems, cX2_unlikeItems, 2, 2, 4, 1, 1, 0, 0, xt26) := ⟨by decide +kernel, rfl, kw_41_20, kw_2_3, by decide +kernel, by decide +kernel, by decide, fun h => absurd h (by decide), fun _ => ⟨kw_41_18, by decide⟩, fun _ => kw_41_19, fun h => absurd h (by decide), xchk_ok xck26⟩
theorem xm27 : xMIok (yX3_init, cX3_init, 3, 2, 2, 0, 2, 13, 102, xt27) := ⟨by decide +kernel, rfl, kw_10_7, kw_2_11, by decide +kernel, by decide +kernel, by decide, fun h => absurd h (by decide), fun _ => ⟨kw_10_6, by decide⟩, fun h => absurd h (by decide), fun _ => ⟨rfl, rfl⟩, xchk_ok xck27⟩
theorem xm28 : xMIok (yX3_become, cX3_become, 3, 2, 3, 0, 1, 0, 0, xt28) := ⟨by decide +kernel, rfl, kw_36_16, kw_2_11, by decide +kernel, by decide +kernel, by decide, fun h => absurd h (by decide), fun _ => ⟨kw_36_14, by decide⟩, fun _ => kw_36_15, fun h => absurd h (by decide), xchk_ok xck28⟩
theorem xm29 : xMIok (yX3_add, cX3_add, 3, 3, 3, 0, 1, 0, 0, xt29) := ⟨by decide +kernel, rfl, kw_24_7, kw_2_11, by decide +kernel, by decide +kernel, by decide, fun h => absurd h (by decide), fun _ => ⟨kw_24_5, by decide⟩, fun _ => kw_24_6, fun h => absurd h (by decide), xchk_ok xck29⟩
theorem xm30 : xMIok (yX3_tie, cX3_tie, 3, 4, 4, 0, 1, 0, 0, xt30) := ⟨by decide +kernel, rfl, kw_25_6, kw_2_11, by decide +kernel, by decide +kernel, by decide, fun h => absurd h (by decide), fun _ => ⟨kw_25_4, by decide⟩, fun _ => kw_25_5, fun h => absurd h (by decide), xchk_ok xck30⟩
theorem xm31 : xMIok (yX3_knows, cX3_knows, 3, 3, 3, 3, 1, 0, 0, xt31) := ⟨by decide +kernel, rfl, kw_26_3, kw_2_11, by decide +kernel, by decide +kernel, by decide, fun h => absurd h (by decide), fun _ => ⟨kw_26_1, by decide⟩, fun _ => kw_26_2, fun h => absurd h (by decide), xchk_ok xck31⟩
theorem xm32 : xMIok (yX3_acquaintances, cX3_acquaintances, 3, 2, 4, 1, 1, 0, 0, xt32) := ⟨by decide +kernel, rfl, kw_25_23, kw_2_11, by decide +kernel, by decide +kernel, by decide, fun h => absurd h (by decide), fun _ => ⟨kw_25_21, by decide⟩, fun _ => kw_25_22, fun h => absurd h (by decide), xchk_ok xck32⟩
theorem xm33 : xMIok (yX3_friends, cX3_friends, 3, 1, 4, 1, 1, 0, 0, xt33) := ⟨by decide +kernel, rfl, kw_30_13, kw_2_11, by decide +kernel, by decide +kernel, by decide, fun h => absurd h (by decide), fun _ => ⟨kw_30_11, by decide⟩, fun _ => kw_30_12, fun h => absurd h (by decide), xchk_ok xck33⟩
theorem xm34 : xMIok (yX3_allStrength, cX3_allStrength, 3, 1, 4, 1, 1, 0, 0, xt34) := ⟨by decide +kernel, rfl, kw_33_19, kw_2_11, by decide +kernel, by decide +kernel, by decide, fun h => absurd h (by decide), fun _ => ⟨kw_33_17, by decide⟩, fun _ => kw_33_18, fun h => absurd h (by decide), xchk_ok xck34⟩
theorem xm35 : xMIok (yX3_seatsAt, cX3_seatsAt, 3, 2, 4, 1, 1, 0, 0, xt35) := ⟨by decide +kernel, rfl, kw_26_7, kw_2_11, by decide +kernel, by decide +kernel, by decide, fun h => absurd h (by decide), fun _ => ⟨kw_26_5, by decide⟩, fun _ => kw_26_6, fun h => absurd h (by decide), xchk_ok xck35⟩
theorem xm36 : xMIok (yX3_seated, cX3_seated, 3, 1, 3, 1, 1, 0, 0, xt36) := ⟨by decide +kernel, rfl, kw_46_22, kw_2_11, by decide +kernel, by decide +kernel, by decide, fun h => absurd h (by decide), fun _ => ⟨kw_46_20, by decide⟩, fun _ => kw_46_21, fun h => absurd h (by decide), xchk_ok xck36⟩
theorem xm37 : xMIok (yX3_meets, cX3_meets, 3, 3, 4, 1, 1, 0, 0, xt37) := ⟨by decide +kernel, rfl, kw_29_6, kw_2_11, by decide +kernel, by decide +kernel, by decide, fun h => absurd h (by decide), fun _ => ⟨kw_29_4, by decide⟩, fun _ => kw_29_5, fun h => absurd h (by decide), xchk_ok xck37⟩
theorem xm38 : xMIok (yX3_forgets, cX3_forgets, 3, 3, 4, 1, 1, 0, 0, xt38) := ⟨by decide +kernel, rfl, kw_29_10, kw_2_11, by decide +kernel, by decide +kernel, by decide, fun h => absurd h (by decide), fun _ => ⟨kw_29_8, by decide⟩, fun _ => kw_29_9, fun h => absurd h (by decide), xchk_ok xck38⟩
theorem xm39 : xMIok (yX3_sounds, cX3_sounds, 3, 2, 3, 1, 1, 0, 0, xt39) := ⟨by decide +kernel, rfl, kw_26_11, kw_2_11, by decide +kernel, by decide +kernel, by decide, fun h => absurd h (by decide), fun _ => ⟨kw_26_9, by decide⟩, fun _ => kw_26_10, fun h => absurd h (by decide), xchk_ok xck39⟩
theorem xm40 : xMIok (yX3_look, cX3_look, 3, 3, 3, 0, 1, 0, 0, xt40) := ⟨by decide +kernel, rfl, kw_26_15, kw_2_11, by decide +kernel, by decide +kernel, by decide, fun h => absurd h (by decide), fun _ => ⟨kw_26_13, by decide⟩, fun _ => kw_26_14, fun h => absurd h (by decide), xchk_ok xck40⟩
theorem xm41 : xMIok (yX3_holdFeast, cX3_holdFeast, 3, 1, 4, 0, 1, 0, 0, xt41) := ⟨by decide +kernel, rfl, kw_30_6, kw_2_11, by decide +kernel, by decide +kernel, by decide, fun h => absurd h (by decide), fun _ => ⟨kw_30_4, by decide⟩, fun _ => kw_30_5, fun h => absurd h (by decide), xchk_ok xck41⟩
theorem xm42 : xMIok (yX3_endYear, cX3_endYear, 3, 1, 4, 0, 1, 0, 0, xt42) := ⟨by decide +kernel, rfl, kw_31_9, kw_2_11, by decide +kernel, by decide +kernel, by decide, fun h => absurd h (by decide), fun _ => ⟨kw_31_7, by decide⟩, fun _ => kw_31_8, fun h => absurd h (by decide), xchk_ok xck42⟩
theorem xm43 : xMIok (yX3_pass, cX3_pass, 3, 2, 3, 1, 1, 0, 0, xt43) := ⟨by decide +kernel, rfl, kw_37_0, kw_2_11, by decide +kernel, by decide +kernel, by decide, fun h => absurd h (by decide), fun _ => ⟨kw_36_22, by decide⟩, fun _ => kw_36_23, fun h => absurd h (by decide), xchk_ok xck43⟩
theorem xm44 : xMIok (yX3_quietTable, cX3_quietTable, 3, 1, 5, 1, 1, 0, 0, xt44) := ⟨by decide +kernel, rfl, kw_34_7, kw_2_11, by decide +kernel, by decide +kernel, by decide, fun h => absurd h (by decide), fun _ => ⟨kw_34_5, by decide⟩, fun _ => kw_34_6, fun h => absurd h (by decide), xchk_ok xck44⟩
theorem xm45 : xMIok (yX3_dinAt, cX3_dinAt, 3, 2, 4, 1, 1, 0, 0, xt45) := ⟨by decide +kernel, rfl, kw_34_11, kw_2_11, by decide +kernel, by decide +kernel, by decide, fun h => absurd h (by decide), fun _ => ⟨kw_34_9, by decide⟩, fun _ => kw_34_10, fun h => absurd h (by decide), xchk_ok xck45⟩
theorem xm46 : xMIok (yX4_init, cX4_init, 4, 1, 1, 0, 2, 4, 643, xt46) := ⟨by decide +kernel, rfl, kw_2_16, kw_1_14, by decide +kernel, by decide +kernel, by decide, fun h => absurd h (by decide), fun _ => ⟨kw_2_15, by decide⟩, fun h => absurd h (by decide), fun _ => ⟨rfl, rfl⟩, xchk_ok xck46⟩
theorem xm47 : xMIok (yX4_put, cX4_put, 4, 2, 2, 3, 1, 0, 0, xt47) := ⟨by decide +kernel, rfl, kw_5_20, kw_1_14, by decide +kernel, by decide +kernel, by decide, fun h => absurd h (by decide), fun _ => ⟨kw_5_18, by decide⟩, fun _ => kw_5_19, fun h => absurd h (by decide), xchk_ok xck47⟩
theorem xm48 : xMIok (yX4_empty, cX4_empty, 4, 1, 1, 0, 1, 0, 0, xt48) := ⟨by decide +kernel, rfl, kw_10_4, kw_1_14, by decide +kernel, by decide +kernel, by decide, fun h => absurd h (by decide), fun _ => ⟨kw_10_2, by decide⟩, fun _ => kw_10_3, fun h => absurd h (by decide), xchk_ok xck48⟩
theorem xm49 : xMIok (yX4_cut, cX4_cut, 4, 1, 2, 0, 1, 0, 0, xt49) := ⟨by decide +kernel, rfl, kw_6_20, kw_1_14, by decide +kernel, by decide +kernel, by decide, fun h => absurd h (by decide), fun _ => ⟨kw_6_18, by decide⟩, fun _ => kw_6_19, fun h => absurd h (by decide), xchk_ok xck49⟩
theorem xm50 : xMIok (yX4_cutNumber, cX4_cutNumber, 4, 2, 3, 0, 1, 0, 0, xt50) := ⟨by decide +kernel, rfl, kw_7_7, kw_1_14, by decide +kernel, by decide +kernel, by decide, fun h => absurd h (by decide), fun _ => ⟨kw_7_5, by decide⟩, fun _ => kw_7_6, fun h => absurd h (by decide), xchk_ok xck50⟩
theorem xm51 : xMIok (yX4_cutWord, cX4_cutWord, 4, 2, 3, 0, 1, 0, 0, xt51) := ⟨by decide +kernel, rfl, kw_7_14, kw_1_14, by decide +kernel, by decide +kernel, by decide, fun h => absurd h (by decide), fun _ => ⟨kw_7_12, by decide⟩, fun _ => kw_7_13, fun h => absurd h (by decide), xchk_ok xck51⟩
theorem xm52 : xMIok (yX4_nameFrom, cX4_nameFrom, 4, 2, 2, 1, 1, 0, 0, xt52) := ⟨by decide +kernel, rfl, kw_7_18, kw_1_14, by decide +kernel, by decide +kernel, by decide, fun h => absurd h (by decide), fun _ => ⟨kw_7_16, by decide⟩, fun _ => kw_7_17, fun h => absurd h (by decide), xchk_ok xck52⟩
theorem xm53 : xMIok (yX4_keyFrom, cX4_keyFrom, 4, 2, 2, 1, 1, 0, 0, xt53) := ⟨by decide +kernel, rfl, kw_8_4, kw_1_14, by decide +kernel, by decide +kernel, by decide, fun h => absurd h (by decide), fun _ => ⟨kw_8_2, by decide⟩, fun _ => kw_8_3, fun h => absurd h (by decide), xchk_ok xck53⟩
theorem xm54 : xMIok (yX4_reads, cX4_reads, 4, 3, 4, 3, 1, 0, 0, xt54) := ⟨by decide +kernel, rfl, kw_7_22, kw_1_14, by decide +kernel, by decide +kernel, by decide, fun h => absurd h (by decide), fun _ => ⟨kw_7_20, by decide⟩, fun _ => kw_7_21, fun h => absurd h (by decide), xchk_ok xck54⟩
theorem xm55 : xMIok (yX4_isBlank, cX4_isBlank, 4, 1, 1, 3, 0, 0, 0, xt55) := ⟨by decide +kernel, rfl, kw_7_0, kw_1_14, by decide +kernel, by decide +kernel, by decide, fun _ => kw_6_23, fun h => absurd rfl h, fun h => absurd h (by decide), fun h => absurd h (by decide), xchk_ok xck55⟩
theorem xm56 : xMIok (yX4_isDigit, cX4_isDigit, 4, 1, 1, 3, 0, 0, 0, xt56) := ⟨by decide +kernel, rfl, kw_7_3, kw_1_14, by decide +kernel, by decide +kernel, by decide, fun _ => kw_7_2, fun h => absurd rfl h, fun h => absurd h (by decide), fun h => absurd h (by decide), xchk_ok xck56⟩
theorem xm57 : xMIok (yX4_isSmall, cX4_isSmall, 4, 1, 1, 3, 0, 0, 0, xt57) := ⟨by decide +kernel, rfl, kw_7_10, kw_1_14, by decide +kernel, by decide +kernel, by decide, fun _ => kw_7_9, fun h => absurd rfl h, fun h => absurd h (by decide), fun h => absurd h (by decide), xchk_ok xck57⟩
theorem xm58 : xMIok (yX5_init, cX5_init, 5, 2, 2, 0, 2, 3, 203, xt58) := ⟨by decide +kernel, rfl, kw_3_5, kw_2_1, by decide +kernel, by decide +kernel, by decide, fun h => absurd h (by decide), fun _ => ⟨kw_3_4, by decide⟩, fun h => absurd h (by decide), fun _ => ⟨rfl, rfl⟩, xchk_ok xck58⟩
theorem xm59 : xMIok (yX5_clear, cX5_clear, 5, 1, 1, 0, 1, 0, 0, xt59) := ⟨by decide +kernel, rfl, kw_6_15, kw_2_1, by decide +kernel, by decide +kernel, by decide, fun h => absurd h (by decide), fun _ => ⟨kw_6_13, by decide⟩, fun _ => kw_6_14, fun h => absurd h (by decide), xchk_ok xck59⟩
theorem xm60 : xMIok (yX5_write, cX5_write, 5, 2, 2, 0, 1, 0, 0, xt60) := ⟨by decide +kernel, rfl, kw_9_12, kw_2_1, by decide +kernel, by decide +kernel, by decide, fun h => absurd h (by decide), fun _ => ⟨kw_9_10, by decide⟩, fun _ => kw_9_11, fun h => absurd h (by decide), xchk_ok xck60⟩
theorem xm61 : xMIok (yX5_endPart, cX5_endPart, 5, 2, 2, 0, 1, 0, 0, xt61) := ⟨by decide +kernel, rfl, kw_10_0, kw_2_1, by decide +kernel, by decide +kernel, by decide, fun h => absurd h (by decide), fun _ => ⟨kw_9_22, by decide⟩, fun _ => kw_9_23, fun h => absurd h (by decide), xchk_ok xck61⟩
theorem xm62 : xMIok (yX5_value, cX5_value, 5, 3, 7, 1, 1, 0, 0, xt62) := ⟨by decide +kernel, rfl, kw_27_1, kw_2_1, by decide +kernel, by decide +kernel, by decide, fun h => absurd h (by decide), fun _ => ⟨kw_26_23, by decide⟩, fun _ => kw_27_0, fun h => absurd h (by decide), xchk_ok xck62⟩
theorem xm63 : xMIok (yX5_turned, cX5_turned, 5, 2, 2, 1, 0, 0, 0, xt63) := ⟨by decide +kernel, rfl, kw_27_10, kw_2_1, by decide +kernel, by decide +kernel, by decide, fun _ => kw_27_9, fun h => absurd rfl h, fun h => absurd h (by decide), fun h => absurd h (by decide), xchk_ok xck63⟩
theorem xm64 : xMIok (yX5_joined, cX5_joined, 5, 3, 3, 1, 0, 0, 0, xt64) := ⟨by decide +kernel, rfl, kw_27_13, kw_2_1, by decide +kernel, by decide +kernel, by decide, fun _ => kw_27_12, fun h => absurd rfl h, fun h => absurd h (by decide), fun h => absurd h (by decide), xchk_ok xck64⟩
theorem xm65 : xMIok (yX6_init, cX6_init, 6, 1, 2, 0, 2, 84, 2427, xt65) := ⟨by decide +kernel, rfl, kw_1_8, kw_1_2, by decide +kernel, by decide +kernel, by decide, fun h => absurd h (by decide), fun _ => ⟨kw_1_7, by decide⟩, fun h => absurd h (by decide), fun _ => ⟨rfl, rfl⟩, xchk_ok xck65⟩
theorem xm66 : xMIok (yX6_set, cX6_set, 6, 4, 5, 1, 1, 0, 0, xt66) := ⟨by decide +kernel, rfl, kw_12_4, kw_1_2, by decide +kernel, by decide +kernel, by decide, fun h => absurd h (by decide), fun _ => ⟨kw_12_2, by decide⟩, fun _ => kw_12_3, fun h => absurd h (by decide), xchk_ok xck66⟩
theorem xm67 : xMIok (yX6_house, cX6_house, 6, 3, 3, 1, 1, 0, 0, xt67) := ⟨by decide +kernel, rfl, kw_23_23, kw_1_2, by decide +kernel, by decide +kernel, by decide, fun h => absurd h (by decide), fun _ => ⟨kw_23_21, by decide⟩, fun _ => kw_23_22, fun h => absurd h (by decide), xchk_ok xck67⟩
theorem xm68 : xMIok (yX6_bind, cX6_bind, 6, 4, 5, 1, 1, 0, 0, xt68) := ⟨by decide +kernel, rfl, kw_24_21, kw_1_2, by decide +kernel, by decide +kernel, by decide, fun h => absurd h (by decide), fun _ => ⟨kw_24_19, by decide⟩, fun _ => kw_24_20, fun h => absurd h (by decide), xchk_ok xck68⟩
theorem xm69 : xMIok (yX6_told, cX6_told, 6, 3, 4, 1, 1, 0, 0, xt69) := ⟨by decide +kernel, rfl, kw_25_18, kw_1_2, by decide +kernel, by decide +kernel, by decide, fun h => absurd h (by decide), fun _ => ⟨kw_25_16, by decide⟩, fun _ => kw_25_17, fun h => absurd h (by decide), xchk_ok xck69⟩
theorem xm70 : xMIok (yX6_feed, cX6_feed, 6, 2, 2, 1, 1, 0, 0, xt70) := ⟨by decide +kernel, rfl, kw_27_18, kw_1_2, by decide +kernel, by decide +kernel, by decide, fun h => absurd h (by decide), fun _ => ⟨kw_27_16, by decide⟩, fun _ => kw_27_17, fun h => absurd h (by decide), xchk_ok xck70⟩
theorem xm71 : xMIok (yX6_text, cX6_text, 6, 1, 2, 1, 1, 0, 0, xt71) := ⟨by decide +kernel, rfl, kw_28_5, kw_1_2, by decide +kernel, by decide +kernel, by decide, fun h => absurd h (by decide), fun _ => ⟨kw_28_3, by decide⟩, fun _ => kw_28_4, fun h => absurd h (by decide), xchk_ok xck71⟩
theorem xm72 : xMIok (yX6_force, cX6_force, 6, 2, 3, 1, 1, 0, 0, xt72) := ⟨by decide +kernel, rfl, kw_28_13, kw_1_2, by decide +kernel, by decide +kernel, by decide, fun h => absurd h (by decide), fun _ => ⟨kw_28_11, by decide⟩, fun _ => kw_28_12, fun h => absurd h (by decide), xchk_ok xck72⟩
theorem xm73 : xMIok (yX6_asks, cX6_asks, 6, 4, 4, 1, 1, 0, 0, xt73) := ⟨by decide +kernel, rfl, kw_28_23, kw_1_2, by decide +kernel, by decide +kernel, by decide, fun h => absurd h (by decide), fun _ => ⟨kw_28_21, by decide⟩, fun _ => kw_28_22, fun h => absurd h (by decide), xchk_ok xck73⟩
theorem xm74 : xMIok (yX6_feast, cX6_feast, 6, 1, 1, 1, 1, 0, 0, xt74) := ⟨by decide +kernel, rfl, kw_30_2, kw_1_2, by decide +kernel, by decide +kernel, by decide, fun h => absurd h (by decide), fun _ => ⟨kw_30_0, by decide⟩, fun _ => kw_30_1, fun h => absurd h (by decide), xchk_ok xck74⟩
theorem xm75 : xMIok (yX6_year, cX6_year, 6, 1, 1, 1, 1, 0, 0, xt75) := ⟨by decide +kernel, rfl, kw_31_5, kw_1_2, by decide +kernel, by decide +kernel, by decide, fun h => absurd h (by decide), fun _ => ⟨kw_31_3, by decide⟩, fun _ => kw_31_4, fun h => absurd h (by decide), xchk_ok xck75⟩
theorem xm76 : xMIok (yX6_street, cX6_street, 6, 2, 2, 1, 1, 0, 0, xt76) := ⟨by decide +kernel, rfl, kw_31_23, kw_1_2, by decide +kernel, by decide +kernel, by decide, fun h => absurd h (by decide), fun _ => ⟨kw_31_21, by decide⟩, fun _ => kw_31_22, fun h => absurd h (by decide), xchk_ok xck76⟩
theorem xm77 : xMIok (yX6_way, cX6_way, 6, 3, 3, 1, 1, 0, 0, xt77) := ⟨by decide +kernel, rfl, kw_36_0, kw_1_2, by decide +kernel, by decide +kernel, by decide, fun h => absurd h (by decide), fun _ => ⟨kw_35_22, by decide⟩, fun _ => kw_35_23, fun h => absurd h (by decide), xchk_ok xck77⟩
theorem xm78 : xMIok (yX6_run, cX6_run, 6, 3, 3, 1, 1, 0, 0, xt78) := ⟨by decide +kernel, rfl, kw_36_9, kw_1_2, by decide +kernel, by decide +kernel, by decide, fun h => absurd h (by decide), fun _ => ⟨kw_36_7, by decide⟩, fun _ => kw_36_8, fun h => absurd h (by decide), xchk_ok xck78⟩
theorem xm79 : xMIok (yX6_takes, cX6_takes, 6, 2, 4, 1, 1, 0, 0, xt79) := ⟨by decide +kernel, rfl, kw_38_2, kw_1_2, by decide +kernel, by decide +kernel, by decide, fun h => absurd h (by decide), fun _ => ⟨kw_38_0, by decide⟩, fun _ => kw_38_1, fun h => absurd h (by decide), xchk_ok xck79⟩
theorem xm80 : xMIok (yX6_best, cX6_best, 6, 4, 8, 1, 1, 0, 0, xt80) := ⟨by decide +kernel, rfl, kw_38_14, kw_1_2, by decide +kernel, by decide +kernel, by decide, fun h => absurd h (by decide), fun _ => ⟨kw_38_12, by decide⟩, fun _ => kw_38_13, fun h => absurd h (by decide), xchk_ok xck80⟩
theorem xm81 : xMIok (yX6_change, cX6_change, 6, 3, 8, 1, 1, 0, 0, xt81) := ⟨by decide +kernel, rfl, kw_39_2, kw_1_2, by decide +kernel, by decide +kernel, by decide, fun h => absurd h (by decide), fun _ => ⟨kw_39_0, by decide⟩, fun _ => kw_39_1, fun h => absurd h (by decide), xchk_ok xck81⟩
theorem xm82 : xMIok (yX6_split, cX6_split, 6, 3, 8, 1, 1, 0, 0, xt82) := ⟨by decide +kernel, rfl, kw_39_14, kw_1_2, by decide +kernel, by decide +kernel, by decide, fun h => absurd h (by decide), fun _ => ⟨kw_39_12, by decide⟩, fun _ => kw_39_13, fun h => absurd h (by decide), xchk_ok xck82⟩
theorem xm83 : xMIok (yX6_missed, cX6_missed, 6, 2, 6, 1, 1, 0, 0, xt83) := ⟨by decide +kernel, rfl, kw_40_7, kw_1_2, by decide +kernel, by decide +kernel, by decide, fun h => absurd h (by decide), fun _ => ⟨kw_40_5, by decide⟩, fun _ => kw_40_6, fun h => absurd h (by decide), xchk_ok xck83⟩
theorem xm84 : xMIok (yX6_match, cX6_match, 6, 2, 7, 1, 1, 0, 0, xt84) := ⟨by decide +kernel, rfl, kw_40_15, kw_1_2, by decide +kernel, by decide +kernel, by decide, fun h => absurd h (by decide), fun _ => ⟨kw_40_13, by decide⟩, fun _ => kw_40_14, fun h => absurd h (by decide), xchk_ok xck84⟩
theorem xm85 : xMIok (yX6_tells, cX6_tells, 6, 4, 5, 1, 1, 0, 0, xt85) := ⟨by decide +kernel, rfl, kw_41_4, kw_1_2, by decide +kernel, by decide +kernel, by decide, fun h => absurd h (by decide), fun _ => ⟨kw_41_2, by decide⟩, fun _ => kw_41_3, fun h => absurd h (by decide), xchk_ok xck85⟩
theorem xm86 : xMIok (yX6_film, cX6_film, 6, 3, 5, 1, 1, 0, 0, xt86) := ⟨by decide +kernel, rfl, kw_43_18, kw_1_2, by decide +kernel, by decide +kernel, by decide, fun h => absurd h (by decide), fun _ => ⟨kw_43_16, by decide⟩, fun _ => kw_43_17, fun h => absurd h (by decide), xchk_ok xck86⟩
theorem xm87 : xMIok (yX6_drawn, cX6_drawn, 6, 3, 3, 1, 1, 0, 0, xt87) := ⟨by decide +kernel, rfl, kw_44_14, kw_1_2, by decide +kernel, by decide +kernel, by decide, fun h => absurd h (by decide), fun _ => ⟨kw_44_12, by decide⟩, fun _ => kw_44_13, fun h => absurd h (by decide), xchk_ok xck87⟩
theorem xm88 : xMIok (yX6_chance, cX6_chance, 6, 5, 7, 2, 1, 0, 0, xt88) := ⟨by decide +kernel, rfl, kw_45_8, kw_1_2, by decide +kernel, by decide +kernel, by decide, fun h => absurd h (by decide), fun _ => ⟨kw_45_6, by decide⟩, fun _ => kw_45_7, fun h => absurd h (by decide), xchk_ok xck88⟩
theorem xm89 : xMIok (yX6_image, cX6_image, 6, 1, 1, 1, 1, 0, 0, xt89) := ⟨by decide +kernel, rfl, kw_45_22, kw_1_2, by decide +kernel, by decide +kernel, by decide, fun h => absurd h (by decide), fun _ => ⟨kw_45_20, by decide⟩, fun _ => kw_45_21, fun h => absurd h (by decide), xchk_ok xck89⟩
theorem xm90 : xMIok (yX6_back, cX6_back, 6, 1, 1, 1, 1, 0, 0, xt90) := ⟨by decide +kernel, rfl, kw_46_10, kw_1_2, by decide +kernel, by decide +kernel, by decide, fun h => absurd h (by decide), fun _ => ⟨kw_46_8, by decide⟩, fun _ => kw_46_9, fun h => absurd h (by decide), xchk_ok xck90⟩
theorem xm91 : xMIok (yX6_count, cX6_count, 6, 2, 2, 1, 1, 0, 0, xt91) := ⟨by decide +kernel, rfl, kw_46_18, kw_1_2, by decide +kernel, by decide +kernel, by decide, fun h => absurd h (by decide), fun _ => ⟨kw_46_16, by decide⟩, fun _ => kw_46_17, fun h => absurd h (by decide), xchk_ok xck91⟩
theorem xm92 : xMIok (yX6_sheet, cX6_sheet, 6, 4, 4, 1, 1, 0, 0, xt92) := ⟨by decide +kernel, rfl, kw_47_6, kw_1_2, by decide +kernel, by decide +kernel, by decide, fun h => absurd h (by decide), fun _ => ⟨kw_47_4, by decide⟩, fun _ => kw_47_5, fun h => absurd h (by decide), xchk_ok xck92⟩
theorem xm93 : xMIok (yX6_cell, cX6_cell, 6, 4, 5, 1, 1, 0, 0, xt93) := ⟨by decide +kernel, rfl, kw_47_14, kw_1_2, by decide +kernel, by decide +kernel, by decide, fun h => absurd h (by decide), fun _ => ⟨kw_47_12, by decide⟩, fun _ => kw_47_13, fun h => absurd h (by decide), xchk_ok xck93⟩
theorem xm94 : xMIok (yX6_copy, cX6_copy, 6, 6, 8, 1, 1, 0, 0, xt94) := ⟨by decide +kernel, rfl, kw_48_2, kw_1_2, by decide +kernel, by decide +kernel, by decide, fun h => absurd h (by decide), fun _ => ⟨kw_48_0, by decide⟩, fun _ => kw_48_1, fun h => absurd h (by decide), xchk_ok xck94⟩
theorem xm95 : xMIok (yX6_houses, cX6_houses, 6, 5, 9, 1, 1, 0, 0, xt95) := ⟨by decide +kernel, rfl, kw_48_12, kw_1_2, by decide +kernel, by decide +kernel, by decide, fun h => absurd h (by decide), fun _ => ⟨kw_48_10, by decide⟩, fun _ => kw_48_11, fun h => absurd h (by decide), xchk_ok xck95⟩
theorem xm96 : xMIok (yX6_taken, cX6_taken, 6, 3, 3, 1, 1, 0, 0, xt96) := ⟨by decide +kernel, rfl, kw_48_22, kw_1_2, by decide +kernel, by decide +kernel, by decide, fun h => absurd h (by decide), fun _ => ⟨kw_48_20, by decide⟩, fun _ => kw_48_21, fun h => absurd h (by decide), xchk_ok xck96⟩
theorem xm97 : xMIok (yX6_isHouse, cX6_isHouse, 6, 2, 2, 3, 1, 0, 0, xt97) := ⟨by decide +kernel, rfl, kw_12_14, kw_1_2, by decide +kernel, by decide +kernel, by decide, fun h => absurd h (by decide), fun _ => ⟨kw_12_12, by decide⟩, fun _ => kw_12_13, fun h => absurd h (by decide), xchk_ok xck97⟩
theorem xm98 : xMIok (yX6_isTwo, cX6_isTwo, 6, 3, 3, 3, 1, 0, 0, xt98) := ⟨by decide +kernel, rfl, kw_25_2, kw_1_2, by decide +kernel, by decide +kernel, by decide, fun h => absurd h (by decide), fun _ => ⟨kw_25_0, by decide⟩, fun _ => kw_25_1, fun h => absurd h (by decide), xchk_ok xck98⟩
theorem xm99 : xMIok (yX6_isSheet, cX6_isSheet, 6, 1, 1, 3, 0, 0, 0, xt99) := ⟨by decide +kernel, rfl, kw_41_8, kw_1_2, by decide +kernel, by decide +kernel, by decide, fun _ => kw_41_7, fun h => absurd rfl h, fun h => absurd h (by decide), fun h => absurd h (by decide), xchk_ok xck99⟩
theorem xm100 : xMIok (yX6_isSort, cX6_isSort, 6, 1, 1, 3, 0, 0, 0, xt100) := ⟨by decide +kernel, rfl, kw_47_9, kw_1_2, by decide +kernel, by decide +kernel, by decide, fun _ => kw_47_8, fun h => absurd rfl h, fun h => absurd h (by decide), fun h => absurd h (by decide), xchk_ok xck100⟩
theorem xm101 : xMIok (yX6_isYears, cX6_isYears, 6, 1, 1, 3, 0, 0, 0, xt101) := ⟨by decide +kernel, rfl, kw_36_12, kw_1_2, by decide +kernel, by decide +kernel, by decide, fun _ => kw_36_11, fun h => absurd rfl h, fun h => absurd h (by decide), fun h => absurd h (by decide), xchk_ok xck101⟩
theorem xm102 : xMIok (yX6_isFriends, cX6_isFriends, 6, 1, 1, 3, 0, 0, 0, xt102) := ⟨by decide +kernel, rfl, kw_38_5, kw_1_2, by decide +kernel, by decide +kernel, by decide, fun _ => kw_38_4, fun h => absurd rfl h, fun h => absurd h (by decide), fun h => absurd h (by decide), xchk_ok xck102⟩
theorem xm103 : xMIok (yX6_isEither, cX6_isEither, 6, 1, 1, 3, 0, 0, 0, xt103) := ⟨by decide +kernel, rfl, kw_29_2, kw_1_2, by decide +kernel, by decide +kernel, by decide, fun _ => kw_29_1, fun h => absurd rfl h, fun h => absurd h (by decide), fun h => absurd h (by decide), xchk_ok xck103⟩
theorem xm104 : xMIok (yX6_isUnder, cX6_isUnder, 6, 2, 4, 3, 0, 0, 0, xt104) := ⟨by decide +kernel, rfl, kw_49_1, kw_1_2, by decide +kernel, by decide +kernel, by decide, fun _ => kw_49_0, fun h => absurd rfl h, fun h => absurd h (by decide), fun h => absurd h (by decide), xchk_ok xck104⟩
theorem xm105 : xMIok (yX6_setting, cX6_setting, 6, 3, 3, 1, 1, 0, 0, xt105) := ⟨by decide +kernel, rfl, kw_12_19, kw_1_2, by decide +kernel, by decide +kernel, by decide, fun h => absurd h (by decide), fun _ => ⟨kw_12_17, by decide⟩, fun _ => kw_12_18, fun h => absurd h (by decide), xchk_ok xck105⟩
theorem xm106 : xMIok (yX6_settle, cX6_settle, 6, 3, 3, 1, 1, 0, 0, xt106) := ⟨by decide +kernel, rfl, kw_24_3, kw_1_2, by decide +kernel, by decide +kernel, by decide, fun h => absurd h (by decide), fun _ => ⟨kw_24_1, by decide⟩, fun _ => kw_24_2, fun h => absurd h (by decide), xchk_ok xck106⟩
theorem xm107 : xMIok (yX6_figure, cX6_figure, 6, 3, 3, 1, 1, 0, 0, xt107) := ⟨by decide +kernel, rfl, kw_32_3, kw_1_2, by decide +kernel, by decide +kernel, by decide, fun h => absurd h (by decide), fun _ => ⟨kw_32_1, by decide⟩, fun _ => kw_32_2, fun h => absurd h (by decide), xchk_ok xck107⟩
theorem xm108 : xMIok (yX6_canChange, cX6_canChange, 6, 3, 5, 3, 1, 0, 0, xt108) := ⟨by decide +kernel, rfl, kw_39_6, kw_1_2, by decide +kernel, by decide +kernel, by decide, fun h => absurd h (by decide), fun _ => ⟨kw_39_4, by decide⟩, fun _ => kw_39_5, fun h => absurd h (by decide), xchk_ok xck108⟩
theorem xm109 : xMIok (yX6_friendsDrawn, cX6_friendsDrawn, 6, 3, 5, 1, 1, 0, 0, xt109) := ⟨by decide +kernel, rfl, kw_44_18, kw_1_2, by decide +kernel, by decide +kernel, by decide, fun h => absurd h (by decide), fun _ => ⟨kw_44_16, by decide⟩, fun _ => kw_44_17, fun h => absurd h (by decide), xchk_ok xck109⟩
theorem xm110 : xMIok (yX6_commonDivisor, cX6_commonDivisor, 6, 2, 6, 1, 0, 0, 0, xt110) := ⟨by decide +kernel, rfl, kw_45_12, kw_1_2, by decide +kernel, by decide +kernel, by decide, fun _ => kw_45_11, fun h => absurd rfl h, fun h => absurd h (by decide), fun h => absurd h (by decide), xchk_ok xck110⟩
theorem xm111 : xMIok (yX6_otherwise, cX6_otherwise, 6, 3, 3, 1, 1, 0, 0, xt111) := ⟨by decide +kernel, rfl, kw_41_16, kw_1_2, by decide +kernel, by decide +kernel, by decide, fun h => absurd h (by decide), fun _ => ⟨kw_41_14, by decide⟩, fun _ => kw_41_15, fun h => absurd h (by decide), xchk_ok xck111⟩
theorem xm112 : xMIok (yX6_possible, cX6_possible, 6, 4, 7, 1, 1, 0, 0, xt112) := ⟨by decide +kernel, rfl, kw_42_14, kw_1_2, by decide +kernel, by decide +kernel, by decide, fun h => absurd h (by decide), fun _ => ⟨kw_42_12, by decide⟩, fun _ => kw_42_13, fun h => absurd h (by decide), xchk_ok xck112⟩
theorem xm113 : xMIok (yX6_choices, cX6_choices, 6, 2, 2, 1, 1, 0, 0, xt113) := ⟨by decide +kernel, rfl, kw_42_18, kw_1_2, by decide +kernel, by decide +kernel, by decide, fun h => absurd h (by decide), fun _ => ⟨kw_42_16, by decide⟩, fun _ => kw_42_17, fun h => absurd h (by decide), xchk_ok xck113⟩
theorem xm114 : xMIok (yX6_suppose, cX6_suppose, 6, 4, 4, 0, 1, 0, 0, xt114) := ⟨by decide +kernel, rfl, kw_42_22, kw_1_2, by decide +kernel, by decide +kernel, by decide, fun h => absurd h (by decide), fun _ => ⟨kw_42_20, by decide⟩, fun _ => kw_42_21, fun h => absurd h (by decide), xchk_ok xck114⟩
theorem xm115 : xMIok (yX6_limits, cX6_limits, 6, 3, 5, 1, 1, 0, 0, xt115) := ⟨by decide +kernel, rfl, kw_42_1, kw_1_2, by decide +kernel, by decide +kernel, by decide, fun h => absurd h (by decide), fun _ => ⟨kw_41_23, by decide⟩, fun _ => kw_42_0, fun h => absurd h (by decide), xchk_ok xck115⟩
theorem xm116 : xMIok (yX6_leastLimit, cX6_leastLimit, 6, 3, 4, 1, 1, 0, 0, xt116) := ⟨by decide +kernel, rfl, kw_42_10, kw_1_2, by decide +kernel, by decide +kernel, by decide, fun h => absurd h (by decide), fun _ => ⟨kw_42_8, by decide⟩, fun _ => kw_42_9, fun h => absurd h (by decide), xchk_ok xck116⟩
theorem xm117 : xMIok (yX6_fits, cX6_fits, 6, 4, 6, 3, 1, 0, 0, xt117) := ⟨by decide +kernel, rfl, kw_42_5, kw_1_2, by decide +kernel, by decide +kernel, by decide, fun h => absurd h (by decide), fun _ => ⟨kw_42_3, by decide⟩, fun _ => kw_42_4, fun h => absurd h (by decide), xchk_ok xck117⟩
theorem xm118 : xMIok (yX7_in, cX7_in, 7, 3, 6, 3, 0, 0, 0, xt118) := ⟨by decide +kernel, rfl, kw_13_3, kw_1_5, by decide +kernel, by decide +kernel, by decide, fun _ => kw_13_2, fun h => absurd rfl h, fun h => absurd h (by decide), fun h => absurd h (by decide), xchk_ok xck118⟩
theorem xm119 : xMIok (yX7_within, cX7_within, 7, 3, 3, 1, 0, 0, 0, xt119) := ⟨by decide +kernel, rfl, kw_23_11, kw_1_5, by decide +kernel, by decide +kernel, by decide, fun _ => kw_23_10, fun h => absurd rfl h, fun h => absurd h (by decide), fun h => absurd h (by decide), xchk_ok xck119⟩
theorem xm120 : xMIok (yX7_init, cX7_init, 7, 1, 1, 0, 2, 17, 1602, xt120) := ⟨by decide +kernel, rfl, kw_10_19, kw_1_5, by decide +kernel, by decide +kernel, by decide, fun h => absurd h (by decide), fun _ => ⟨kw_10_18, by decide⟩, fun h => absurd h (by decide), fun _ => ⟨rfl, rfl⟩, xchk_ok xck120⟩
theorem xm121 : xMIok (yX7_spell, cX7_spell, 7, 10, 10, 0, 1, 0, 0, xt121) := ⟨by decide +kernel, rfl, kw_12_0, kw_1_5, by decide +kernel, by decide +kernel, by decide, fun h => absurd h (by decide), fun _ => ⟨kw_11_22, by decide⟩, fun _ => kw_11_23, fun h => absurd h (by decide), xchk_ok xck121⟩
theorem xm122 : xMIok (yX7_isHouse, cX7_isHouse, 7, 2, 2, 3, 1, 0, 0, xt122) := ⟨by decide +kernel, rfl, kw_13_7, kw_1_5, by decide +kernel, by decide +kernel, by decide, fun h => absurd h (by decide), fun _ => ⟨kw_13_5, by decide⟩, fun _ => kw_13_6, fun h => absurd h (by decide), xchk_ok xck122⟩
theorem xm123 : xMIok (yX7_isValue, cX7_isValue, 7, 2, 2, 3, 0, 0, 0, xt123) := ⟨by decide +kernel, rfl, kw_13_11, kw_1_5, by decide +kernel, by decide +kernel, by decide, fun _ => kw_13_10, fun h => absurd rfl h, fun h => absurd h (by decide), fun h => absurd h (by decide), xchk_ok xck123⟩
theorem xm124 : xMIok (yX7_set, cX7_set, 7, 4, 5, 1, 1, 0, 0, xt124) := ⟨by decide +kernel, rfl, kw_12_23, kw_1_5, by decide +kernel, by decide +kernel, by decide, fun h => absurd h (by decide), fun _ => ⟨kw_12_21, by decide⟩, fun _ => kw_12_22, fun h => absurd h (by decide), xchk_ok xck124⟩
theorem xm125 : xMIok (yX7_lays, cX7_lays, 7, 4, 4, 0, 1, 0, 0, xt125) := ⟨by decide +kernel, rfl, kw_23_19, kw_1_5, by decide +kernel, by decide +kernel, by decide, fun h => absurd h (by decide), fun _ => ⟨kw_23_17, by decide⟩, fun _ => kw_23_18, fun h => absurd h (by decide), xchk_ok xck125⟩
theorem xm126 : xMIok (yX7_strengthOf, cX7_strengthOf, 7, 3, 3, 1, 1, 0, 0, xt126) := ⟨by decide +kernel, rfl, kw_14_3, kw_1_5, by decide +kernel, by decide +kernel, by decide, fun h => absurd h (by decide), fun _ => ⟨kw_14_1, by decide⟩, fun _ => kw_14_2, fun h => absurd h (by decide), xchk_ok xck126⟩
theorem xm127 : xMIok (yX7_binds, cX7_binds, 7, 4, 5, 0, 1, 0, 0, xt127) := ⟨by decide +kernel, rfl, kw_24_17, kw_1_5, by decide +kernel, by decide +kernel, by decide, fun h => absurd h (by decide), fun _ => ⟨kw_24_15, by decide⟩, fun _ => kw_24_16, fun h => absurd h (by decide), xchk_ok xck127⟩
theorem xm128 : xMIok (yX7_house, cX7_house, 7, 3, 4, 1, 1, 0, 0, xt128) := ⟨by decide +kernel, rfl, kw_24_12, kw_1_5, by decide +kernel, by decide +kernel, by decide, fun h => absurd h (by decide), fun _ => ⟨kw_24_10, by decide⟩, fun _ => kw_24_11, fun h => absurd h (by decide), xchk_ok xck128⟩
theorem xm129 : xMIok (yX7_areTwo, cX7_areTwo, 7, 3, 3, 3, 1, 0, 0, xt129) := ⟨by decide +kernel, rfl, kw_25_14, kw_1_5, by decide +kernel, by decide +kernel, by decide, fun h => absurd h (by decide), fun _ => ⟨kw_25_12, by decide⟩, fun _ => kw_25_13, fun h => absurd h (by decide), xchk_ok xck129⟩
theorem xm130 : xMIok (yX7_bind, cX7_bind, 7, 4, 5, 1, 1, 0, 0, xt130) := ⟨by decide +kernel, rfl, kw_25_10, kw_1_5, by decide +kernel, by decide +kernel, by decide, fun h => absurd h (by decide), fun _ => ⟨kw_25_8, by decide⟩, fun _ => kw_25_9, fun h => absurd h (by decide), xchk_ok xck130⟩
theorem xm131 : xMIok (yX7_told, cX7_told, 7, 3, 6, 1, 1, 0, 0, xt131) := ⟨by decide +kernel, rfl, kw_13_19, kw_1_5, by decide +kernel, by decide +kernel, by decide, fun h => absurd h (by decide), fun _ => ⟨kw_13_17, by decide⟩, fun _ => kw_13_18, fun h => absurd h (by decide), xchk_ok xck131⟩
theorem xm132 : xMIok (yX7_seatsOf, cX7_seatsOf, 7, 2, 4, 1, 1, 0, 0, xt132) := ⟨by decide +kernel, rfl, kw_14_7, kw_1_5, by decide +kernel, by decide +kernel, by decide, fun h => absurd h (by decide), fun _ => ⟨kw_14_5, by decide⟩, fun _ => kw_14_6, fun h => absurd h (by decide), xchk_ok xck132⟩
theorem xm133 : xMIok (yX7_feed, cX7_feed, 7, 2, 2, 1, 1, 0, 0, xt133) := ⟨by decide +kernel, rfl, kw_27_23, kw_1_5, by decide +kernel, by decide +kernel, by decide, fun h => absurd h (by decide), fun _ => ⟨kw_27_21, by decide⟩, fun _ => kw_27_22, fun h => absurd h (by decide), xchk_ok xck133⟩
theorem xm134 : xMIok (yX7_byteAt, cX7_byteAt, 7, 2, 2, 1, 1, 0, 0, xt134) := ⟨by decide +kernel, rfl, kw_16_1, kw_1_5, by decide +kernel, by decide +kernel, by decide, fun h => absurd h (by decide), fun _ => ⟨kw_15_23, by decide⟩, fun _ => kw_16_0, fun h => absurd h (by decide), xchk_ok xck134⟩
theorem xm135 : xMIok (yX7_next, cX7_next, 7, 1, 3, 0, 1, 0, 0, xt135) := ⟨by decide +kernel, rfl, kw_15_15, kw_1_5, by decide +kernel, by decide +kernel, by decide, fun h => absurd h (by decide), fun _ => ⟨kw_15_13, by decide⟩, fun _ => kw_15_14, fun h => absurd h (by decide), xchk_ok xck135⟩
theorem xm136 : xMIok (yX7_fail, cX7_fail, 7, 1, 1, 0, 1, 0, 0, xt136) := ⟨by decide +kernel, rfl, kw_16_17, kw_1_5, by decide +kernel, by decide +kernel, by decide, fun h => absurd h (by decide), fun _ => ⟨kw_16_15, by decide⟩, fun _ => kw_16_16, fun h => absurd h (by decide), xchk_ok xck136⟩
theorem xm137 : xMIok (yX7_isLetter, cX7_isLetter, 7, 3, 3, 3, 1, 0, 0, xt137) := ⟨by decide +kernel, rfl, kw_16_9, kw_1_5, by decide +kernel, by decide +kernel, by decide, fun h => absurd h (by decide), fun _ => ⟨kw_16_7, by decide⟩, fun _ => kw_16_8, fun h => absurd h (by decide), xchk_ok xck137⟩
theorem xm138 : xMIok (yX7_isWord, cX7_isWord, 7, 9, 9, 3, 1, 0, 0, xt138) := ⟨by decide +kernel, rfl, kw_16_5, kw_1_5, by decide +kernel, by decide +kernel, by decide, fun h => absurd h (by decide), fun _ => ⟨kw_16_3, by decide⟩, fun _ => kw_16_4, fun h => absurd h (by decide), xchk_ok xck138⟩
theorem xm139 : xMIok (yX7_isSign, cX7_isSign, 7, 2, 2, 3, 1, 0, 0, xt139) := ⟨by decide +kernel, rfl, kw_19_0, kw_1_5, by decide +kernel, by decide +kernel, by decide, fun h => absurd h (by decide), fun _ => ⟨kw_18_22, by decide⟩, fun _ => kw_18_23, fun h => absurd h (by decide), xchk_ok xck139⟩
theorem xm140 : xMIok (yX7_opens, cX7_opens, 7, 1, 1, 3, 1, 0, 0, xt140) := ⟨by decide +kernel, rfl, kw_17_11, kw_1_5, by decide +kernel, by decide +kernel, by decide, fun h => absurd h (by decide), fun _ => ⟨kw_17_9, by decide⟩, fun _ => kw_17_10, fun h => absurd h (by decide), xchk_ok xck140⟩
theorem xm141 : xMIok (yX7_name, cX7_name, 7, 1, 1, 1, 1, 0, 0, xt141) := ⟨by decide +kernel, rfl, kw_19_4, kw_1_5, by decide +kernel, by decide +kernel, by decide, fun h => absurd h (by decide), fun _ => ⟨kw_19_2, by decide⟩, fun _ => kw_19_3, fun h => absurd h (by decide), xchk_ok xck141⟩
theorem xm142 : xMIok (yX7_atom5, cX7_atom5, 7, 1, 2, 1, 1, 0, 0, xt142) := ⟨by decide +kernel, rfl, kw_18_20, kw_1_5, by decide +kernel, by decide +kernel, by decide, fun h => absurd h (by decide), fun _ => ⟨kw_18_18, by decide⟩, fun _ => kw_18_19, fun h => absurd h (by decide), xchk_ok xck142⟩
theorem xm143 : xMIok (yX7_term5, cX7_term5, 7, 1, 2, 1, 1, 0, 0, xt143) := ⟨by decide +kernel, rfl, kw_18_16, kw_1_5, by decide +kernel, by decide +kernel, by decide, fun h => absurd h (by decide), fun _ => ⟨kw_18_14, by decide⟩, fun _ => kw_18_15, fun h => absurd h (by decide), xchk_ok xck143⟩
theorem xm144 : xMIok (yX7_added5, cX7_added5, 7, 1, 4, 1, 1, 0, 0, xt144) := ⟨by decide +kernel, rfl, kw_18_11, kw_1_5, by decide +kernel, by decide +kernel, by decide, fun h => absurd h (by decide), fun _ => ⟨kw_18_9, by decide⟩, fun _ => kw_18_10, fun h => absurd h (by decide), xchk_ok xck144⟩
theorem xm145 : xMIok (yX7_not5, cX7_not5, 7, 1, 4, 1, 1, 0, 0, xt145) := ⟨by decide +kernel, rfl, kw_18_7, kw_1_5, by decide +kernel, by decide +kernel, by decide, fun h => absurd h (by decide), fun _ => ⟨kw_18_5, by decide⟩, fun _ => kw_18_6, fun h => absurd h (by decide), xchk_ok xck145⟩
theorem xm146 : xMIok (yX7_both5, cX7_both5, 7, 1, 3, 1, 1, 0, 0, xt146) := ⟨by decide +kernel, rfl, kw_20_0, kw_1_5, by decide +kernel, by decide +kernel, by decide, fun h => absurd h (by decide), fun _ => ⟨kw_19_22, by decide⟩, fun _ => kw_19_23, fun h => absurd h (by decide), xchk_ok xck146⟩
theorem xm147 : xMIok (yX7_either5, cX7_either5, 7, 1, 3, 1, 1, 0, 0, xt147) := ⟨by decide +kernel, rfl, kw_19_20, kw_1_5, by decide +kernel, by decide +kernel, by decide, fun h => absurd h (by decide), fun _ => ⟨kw_19_18, by decide⟩, fun _ => kw_19_19, fun h => absurd h (by decide), xchk_ok xck147⟩
theorem xm148 : xMIok (yX7_atom4, cX7_atom4, 7, 1, 2, 1, 1, 0, 0, xt148) := ⟨by decide +kernel, rfl, kw_19_16, kw_1_5, by decide +kernel, by decide +kernel, by decide, fun h => absurd h (by decide), fun _ => ⟨kw_19_14, by decide⟩, fun _ => kw_19_15, fun h => absurd h (by decide), xchk_ok xck148⟩
theorem xm149 : xMIok (yX7_term4, cX7_term4, 7, 1, 2, 1, 1, 0, 0, xt149) := ⟨by decide +kernel, rfl, kw_19_12, kw_1_5, by decide +kernel, by decide +kernel, by decide, fun h => absurd h (by decide), fun _ => ⟨kw_19_10, by decide⟩, fun _ => kw_19_11, fun h => absurd h (by decide), xchk_ok xck149⟩
theorem xm150 : xMIok (yX7_added4, cX7_added4, 7, 1, 4, 1, 1, 0, 0, xt150) := ⟨by decide +kernel, rfl, kw_19_8, kw_1_5, by decide +kernel, by decide +kernel, by decide, fun h => absurd h (by decide), fun _ => ⟨kw_19_6, by decide⟩, fun _ => kw_19_7, fun h => absurd h (by decide), xchk_ok xck150⟩
theorem xm151 : xMIok (yX7_not4, cX7_not4, 7, 1, 4, 1, 1, 0, 0, xt151) := ⟨by decide +kernel, rfl, kw_18_3, kw_1_5, by decide +kernel, by decide +kernel, by decide, fun h => absurd h (by decide), fun _ => ⟨kw_18_1, by decide⟩, fun _ => kw_18_2, fun h => absurd h (by decide), xchk_ok xck151⟩
theorem xm152 : xMIok (yX7_both4, cX7_both4, 7, 1, 3, 1, 1, 0, 0, xt152) := ⟨by decide +kernel, rfl, kw_20_20, kw_1_5, by decide +kernel, by decide +kernel, by decide, fun h => absurd h (by decide), fun _ => ⟨kw_20_18, by decide⟩, fun _ => kw_20_19, fun h => absurd h (by decide), xchk_ok xck152⟩
theorem xm153 : xMIok (yX7_either4, cX7_either4, 7, 1, 3, 1, 1, 0, 0, xt153) := ⟨by decide +kernel, rfl, kw_20_16, kw_1_5, by decide +kernel, by decide +kernel, by decide, fun h => absurd h (by decide), fun _ => ⟨kw_20_14, by decide⟩, fun _ => kw_20_15, fun h => absurd h (by decide), xchk_ok xck153⟩
theorem xm154 : xMIok (yX7_atom3, cX7_atom3, 7, 1, 2, 1, 1, 0, 0, xt154) := ⟨by decide +kernel, rfl, kw_20_12, kw_1_5, by decide +kernel, by decide +kernel, by decide, fun h => absurd h (by decide), fun _ => ⟨kw_20_10, by decide⟩, fun _ => kw_20_11, fun h => absurd h (by decide), xchk_ok xck154⟩
theorem xm155 : xMIok (yX7_term3, cX7_term3, 7, 1, 2, 1, 1, 0, 0, xt155) := ⟨by decide +kernel, rfl, kw_20_8, kw_1_5, by decide +kernel, by decide +kernel, by decide, fun h => absurd h (by decide), fun _ => ⟨kw_20_6, by decide⟩, fun _ => kw_20_7, fun h => absurd h (by decide), xchk_ok xck155⟩
theorem xm156 : xMIok (yX7_added3, cX7_added3, 7, 1, 4, 1, 1, 0, 0, xt156) := ⟨by decide +kernel, rfl, kw_20_4, kw_1_5, by decide +kernel, by decide +kernel, by decide, fun h => absurd h (by decide), fun _ => ⟨kw_20_2, by decide⟩, fun _ => kw_20_3, fun h => absurd h (by decide), xchk_ok xck156⟩
theorem xm157 : xMIok (yX7_not3, cX7_not3, 7, 1, 4, 1, 1, 0, 0, xt157) := ⟨by decide +kernel, rfl, kw_17_23, kw_1_5, by decide +kernel, by decide +kernel, by decide, fun h => absurd h (by decide), fun _ => ⟨kw_17_21, by decide⟩, fun _ => kw_17_22, fun h => absurd h (by decide), xchk_ok xck157⟩
theorem xm158 : xMIok (yX7_both3, cX7_both3, 7, 1, 3, 1, 1, 0, 0, xt158) := ⟨by decide +kernel, rfl, kw_21_16, kw_1_5, by decide +kernel, by decide +kernel, by decide, fun h => absurd h (by decide), fun _ => ⟨kw_21_14, by decide⟩, fun _ => kw_21_15, fun h => absurd h (by decide), xchk_ok xck158⟩
theorem xm159 : xMIok (yX7_either3, cX7_either3, 7, 1, 3, 1, 1, 0, 0, xt159) := ⟨by decide +kernel, rfl, kw_21_12, kw_1_5, by decide +kernel, by decide +kernel, by decide, fun h => absurd h (by decide), fun _ => ⟨kw_21_10, by decide⟩, fun _ => kw_21_11, fun h => absurd h (by decide), xchk_ok xck159⟩
theorem xm160 : xMIok (yX7_atom2, cX7_atom2, 7, 1, 2, 1, 1, 0, 0, xt160) := ⟨by decide +kernel, rfl, kw_21_8, kw_1_5, by decide +kernel, by decide +kernel, by decide, fun h => absurd h (by decide), fun _ => ⟨kw_21_6, by decide⟩, fun _ => kw_21_7, fun h => absurd h (by decide), xchk_ok xck160⟩
theorem xm161 : xMIok (yX7_term2, cX7_term2, 7, 1, 2, 1, 1, 0, 0, xt161) := ⟨by decide +kernel, rfl, kw_21_4, kw_1_5, by decide +kernel, by decide +kernel, by decide, fun h => absurd h (by decide), fun _ => ⟨kw_21_2, by decide⟩, fun _ => kw_21_3, fun h => absurd h (by decide), xchk_ok xck161⟩
theorem xm162 : xMIok (yX7_added2, cX7_added2, 7, 1, 4, 1, 1, 0, 0, xt162) := ⟨by decide +kernel, rfl, kw_21_0, kw_1_5, by decide +kernel, by decide +kernel, by decide, fun h => absurd h (by decide), fun _ => ⟨kw_20_22, by decide⟩, fun _ => kw_20_23, fun h => absurd h (by decide), xchk_ok xck162⟩
theorem xm163 : xMIok (yX7_not2, cX7_not2, 7, 1, 4, 1, 1, 0, 0, xt163) := ⟨by decide +kernel, rfl, kw_17_19, kw_1_5, by decide +kernel, by decide +kernel, by decide, fun h => absurd h (by decide), fun _ => ⟨kw_17_17, by decide⟩, fun _ => kw_17_18, fun h => absurd h (by decide), xchk_ok xck163⟩
theorem xm164 : xMIok (yX7_both2, cX7_both2, 7, 1, 3, 1, 1, 0, 0, xt164) := ⟨by decide +kernel, rfl, kw_22_12, kw_1_5, by decide +kernel, by decide +kernel, by decide, fun h => absurd h (by decide), fun _ => ⟨kw_22_10, by decide⟩, fun _ => kw_22_11, fun h => absurd h (by decide), xchk_ok xck164⟩
theorem xm165 : xMIok (yX7_either2, cX7_either2, 7, 1, 3, 1, 1, 0, 0, xt165) := ⟨by decide +kernel, rfl, kw_22_8, kw_1_5, by decide +kernel, by decide +kernel, by decide, fun h => absurd h (by decide), fun _ => ⟨kw_22_6, by decide⟩, fun _ => kw_22_7, fun h => absurd h (by decide), xchk_ok xck165⟩
theorem xm166 : xMIok (yX7_atom1, cX7_atom1, 7, 1, 2, 1, 1, 0, 0, xt166) := ⟨by decide +kernel, rfl, kw_22_4, kw_1_5, by decide +kernel, by decide +kernel, by decide, fun h => absurd h (by decide), fun _ => ⟨kw_22_2, by decide⟩, fun _ => kw_22_3, fun h => absurd h (by decide), xchk_ok xck166⟩
theorem xm167 : xMIok (yX7_term1, cX7_term1, 7, 1, 2, 1, 1, 0, 0, xt167) := ⟨by decide +kernel, rfl, kw_22_0, kw_1_5, by decide +kernel, by decide +kernel, by decide, fun h => absurd h (by decide), fun _ => ⟨kw_21_22, by decide⟩, fun _ => kw_21_23, fun h => absurd h (by decide), xchk_ok xck167⟩
theorem xm168 : xMIok (yX7_added1, cX7_added1, 7, 1, 4, 1, 1, 0, 0, xt168) := ⟨by decide +kernel, rfl, kw_21_20, kw_1_5, by decide +kernel, by decide +kernel, by decide, fun h => absurd h (by decide), fun _ => ⟨kw_21_18, by decide⟩, fun _ => kw_21_19, fun h => absurd h (by decide), xchk_ok xck168⟩
theorem xm169 : xMIok (yX7_not1, cX7_not1, 7, 1, 4, 1, 1, 0, 0, xt169) := ⟨by decide +kernel, rfl, kw_17_15, kw_1_5, by decide +kernel, by decide +kernel, by decide, fun h => absurd h (by decide), fun _ => ⟨kw_17_13, by decide⟩, fun _ => kw_17_14, fun h => absurd h (by decide), xchk_ok xck169⟩
theorem xm170 : xMIok (yX7_both1, cX7_both1, 7, 1, 3, 1, 1, 0, 0, xt170) := ⟨by decide +kernel, rfl, kw_23_8, kw_1_5, by decide +kernel, by decide +kernel, by decide, fun h => absurd h (by decide), fun _ => ⟨kw_23_6, by decide⟩, fun _ => kw_23_7, fun h => absurd h (by decide), xchk_ok xck170⟩
theorem xm171 : xMIok (yX7_either1, cX7_either1, 7, 1, 3, 1, 1, 0, 0, xt171) := ⟨by decide +kernel, rfl, kw_23_4, kw_1_5, by decide +kernel, by decide +kernel, by decide, fun h => absurd h (by decide), fun _ => ⟨kw_23_2, by decide⟩, fun _ => kw_23_3, fun h => absurd h (by decide), xchk_ok xck171⟩
theorem xm172 : xMIok (yX7_atom0, cX7_atom0, 7, 1, 2, 1, 1, 0, 0, xt172) := ⟨by decide +kernel, rfl, kw_23_0, kw_1_5, by decide +kernel, by decide +kernel, by decide, fun h => absurd h (by decide), fun _ => ⟨kw_22_22, by decide⟩, fun _ => kw_22_23, fun h => absurd h (by decide), xchk_ok xck172⟩
theorem xm173 : xMIok (yX7_term0, cX7_term0, 7, 1, 2, 1, 1, 0, 0, xt173) := ⟨by decide +kernel, rfl, kw_22_20, kw_1_5, by decide +kernel, by decide +kernel, by decide, fun h => absurd h (by decide), fun _ => ⟨kw_22_18, by decide⟩, fun _ => kw_22_19, fun h => absurd h (by decide), xchk_ok xck173⟩
theorem xm174 : xMIok (yX7_added0, cX7_added0, 7, 1, 4, 1, 1, 0, 0, xt174) := ⟨by decide +kernel, rfl, kw_22_16, kw_1_5, by decide +kernel, by decide +kernel, by decide, fun h => absurd h (by decide), fun _ => ⟨kw_22_14, by decide⟩, fun _ => kw_22_15, fun h => absurd h (by decide), xchk_ok xck174⟩
theorem xm175 : xMIok (yX7_not0, cX7_not0, 7, 1, 4, 1, 1, 0, 0, xt175) := ⟨by decide +kernel, rfl, kw_17_6, kw_1_5, by decide +kernel, by decide +kernel, by decide, fun h => absurd h (by decide), fun _ => ⟨kw_17_4, by decide⟩, fun _ => kw_17_5, fun h => absurd h (by decide), xchk_ok xck175⟩
theorem xm176 : xMIok (yX7_both0, cX7_both0, 7, 1, 3, 1, 1, 0, 0, xt176) := ⟨by decide +kernel, rfl, kw_17_2, kw_1_5, by decide +kernel, by decide +kernel, by decide, fun h => absurd h (by decide), fun _ => ⟨kw_17_0, by decide⟩, fun _ => kw_17_1, fun h => absurd h (by decide), xchk_ok xck176⟩
theorem xm177 : xMIok (yX7_either0, cX7_either0, 7, 1, 3, 1, 1, 0, 0, xt177) := ⟨by decide +kernel, rfl, kw_16_22, kw_1_5, by decide +kernel, by decide +kernel, by decide, fun h => absurd h (by decide), fun _ => ⟨kw_16_20, by decide⟩, fun _ => kw_16_21, fun h => absurd h (by decide), xchk_ok xck177⟩
theorem xm178 : xMIok (yX7_part, cX7_part, 7, 2, 3, 1, 1, 0, 0, xt178) := ⟨by decide +kernel, rfl, kw_16_13, kw_1_5, by decide +kernel, by decide +kernel, by decide, fun h => absurd h (by decide), fun _ => ⟨kw_16_11, by decide⟩, fun _ => kw_16_12, fun h => absurd h (by decide), xchk_ok xck178⟩
theorem xm179 : xMIok (yX7_read, cX7_read, 7, 3, 6, 1, 1, 0, 0, xt179) := ⟨by decide +kernel, rfl, kw_15_5, kw_1_5, by decide +kernel, by decide +kernel, by decide, fun h => absurd h (by decide), fun _ => ⟨kw_15_3, by decide⟩, fun _ => kw_15_4, fun h => absurd h (by decide), xchk_ok xck179⟩
theorem xm180 : xMIok (yX7_text, cX7_text, 7, 1, 2, 1, 1, 0, 0, xt180) := ⟨by decide +kernel, rfl, kw_28_9, kw_1_5, by decide +kernel, by decide +kernel, by decide, fun h => absurd h (by decide), fun _ => ⟨kw_28_7, by decide⟩, fun _ => kw_28_8, fun h => absurd h (by decide), xchk_ok xck180⟩
theorem xm181 : xMIok (yX7_force, cX7_force, 7, 2, 3, 1, 1, 0, 0, xt181) := ⟨by decide +kernel, rfl, kw_28_19, kw_1_5, by decide +kernel, by decide +kernel, by decide, fun h => absurd h (by decide), fun _ => ⟨kw_28_17, by decide⟩, fun _ => kw_28_18, fun h => absurd h (by decide), xchk_ok xck181⟩
theorem xm182 : xMIok (yX7_says, cX7_says, 7, 4, 4, 1, 1, 0, 0, xt182) := ⟨by decide +kernel, rfl, kw_14_15, kw_1_5, by decide +kernel, by decide +kernel, by decide, fun h => absurd h (by decide), fun _ => ⟨kw_14_13, by decide⟩, fun _ => kw_14_14, fun h => absurd h (by decide), xchk_ok xck182⟩
theorem xm183 : xMIok (yX7_apart, cX7_apart, 7, 2, 2, 1, 0, 0, 0, xt183) := ⟨by decide +kernel, rfl, kw_15_1, kw_1_5, by decide +kernel, by decide +kernel, by decide, fun _ => kw_15_0, fun h => absurd rfl h, fun h => absurd h (by decide), fun h => absurd h (by decide), xchk_ok xck183⟩
theorem xm184 : xMIok (yX7_meetsOf, cX7_meetsOf, 7, 3, 5, 1, 1, 0, 0, xt184) := ⟨by decide +kernel, rfl, kw_29_18, kw_1_5, by decide +kernel, by decide +kernel, by decide, fun h => absurd h (by decide), fun _ => ⟨kw_29_16, by decide⟩, fun _ => kw_29_17, fun h => absurd h (by decide), xchk_ok xck184⟩
theorem xm185 : xMIok (yX7_fadesOf, cX7_fadesOf, 7, 3, 5, 1, 1, 0, 0, xt185) := ⟨by decide +kernel, rfl, kw_29_22, kw_1_5, by decide +kernel, by decide +kernel, by decide, fun h => absurd h (by decide), fun _ => ⟨kw_29_20, by decide⟩, fun _ => kw_29_21, fun h => absurd h (by decide), xchk_ok xck185⟩
theorem xm186 : xMIok (yX7_soundsOf, cX7_soundsOf, 7, 2, 4, 1, 1, 0, 0, xt186) := ⟨by decide +kernel, rfl, kw_14_11, kw_1_5, by decide +kernel, by decide +kernel, by decide, fun h => absurd h (by decide), fun _ => ⟨kw_14_9, by decide⟩, fun _ => kw_14_10, fun h => absurd h (by decide), xchk_ok xck186⟩
theorem xm187 : xMIok (yX7_asks, cX7_asks, 7, 4, 4, 1, 1, 0, 0, xt187) := ⟨by decide +kernel, rfl, kw_29_14, kw_1_5, by decide +kernel, by decide +kernel, by decide, fun h => absurd h (by decide), fun _ => ⟨kw_29_12, by decide⟩, fun _ => kw_29_13, fun h => absurd h (by decide), xchk_ok xck187⟩
theorem xm188 : xMIok (yX7_feasts, cX7_feasts, 7, 1, 4, 0, 1, 0, 0, xt188) := ⟨by decide +kernel, rfl, kw_30_21, kw_1_5, by decide +kernel, by decide +kernel, by decide, fun h => absurd h (by decide), fun _ => ⟨kw_30_19, by decide⟩, fun _ => kw_30_20, fun h => absurd h (by decide), xchk_ok xck188⟩
theorem xm189 : xMIok (yX7_fades, cX7_fades, 7, 1, 4, 0, 1, 0, 0, xt189) := ⟨by decide +kernel, rfl, kw_31_19, kw_1_5, by decide +kernel, by decide +kernel, by decide, fun h => absurd h (by decide), fun _ => ⟨kw_31_17, by decide⟩, fun _ => kw_31_18, fun h => absurd h (by decide), xchk_ok xck189⟩
theorem xm190 : xMIok (yX7_feast, cX7_feast, 7, 1, 1, 1, 1, 0, 0, xt190) := ⟨by decide +kernel, rfl, kw_30_17, kw_1_5, by decide +kernel, by decide +kernel, by decide, fun h => absurd h (by decide), fun _ => ⟨kw_30_15, by decide⟩, fun _ => kw_30_16, fun h => absurd h (by decide), xchk_ok xck190⟩
theorem xm191 : xMIok (yX7_year, cX7_year, 7, 1, 1, 1, 1, 0, 0, xt191) := ⟨by decide +kernel, rfl, kw_31_15, kw_1_5, by decide +kernel, by decide +kernel, by decide, fun h => absurd h (by decide), fun _ => ⟨kw_31_13, by decide⟩, fun _ => kw_31_14, fun h => absurd h (by decide), xchk_ok xck191⟩
theorem xm192 : xMIok (yX7_knows, cX7_knows, 7, 3, 3, 3, 1, 0, 0, xt192) := ⟨by decide +kernel, rfl, kw_23_15, kw_1_5, by decide +kernel, by decide +kernel, by decide, fun h => absurd h (by decide), fun _ => ⟨kw_23_13, by decide⟩, fun _ => kw_23_14, fun h => absurd h (by decide), xchk_ok xck192⟩
theorem xm193 : xMIok (yX7_friends, cX7_friends, 7, 1, 4, 1, 1, 0, 0, xt193) := ⟨by decide +kernel, rfl, kw_31_1, kw_1_5, by decide +kernel, by decide +kernel, by decide, fun h => absurd h (by decide), fun _ => ⟨kw_30_23, by decide⟩, fun _ => kw_31_0, fun h => absurd h (by decide), xchk_ok xck193⟩
theorem xm194 : xMIok (yX7_waysAll, cX7_waysAll, 7, 1, 7, 0, 1, 0, 0, xt194) := ⟨by decide +kernel, rfl, kw_35_4, kw_1_5, by decide +kernel, by decide +kernel, by decide, fun h => absurd h (by decide), fun _ => ⟨kw_35_2, by decide⟩, fun _ => kw_35_3, fun h => absurd h (by decide), xchk_ok xck194⟩
theorem xm195 : xMIok (yX7_companies, cX7_companies, 7, 1, 5, 1, 1, 0, 0, xt195) := ⟨by decide +kernel, rfl, kw_35_8, kw_1_5, by decide +kernel, by decide +kernel, by decide, fun h => absurd h (by decide), fun _ => ⟨kw_35_6, by decide⟩, fun _ => kw_35_7, fun h => absurd h (by decide), xchk_ok xck195⟩
theorem xm196 : xMIok (yX7_largest, cX7_largest, 7, 1, 5, 1, 1, 0, 0, xt196) := ⟨by decide +kernel, rfl, kw_35_12, kw_1_5, by decide +kernel, by decide +kernel, by decide, fun h => absurd h (by decide), fun _ => ⟨kw_35_10, by decide⟩, fun _ => kw_35_11, fun h => absurd h (by decide), xchk_ok xck196⟩
theorem xm197 : xMIok (yX7_longest, cX7_longest, 7, 2, 6, 1, 1, 0, 0, xt197) := ⟨by decide +kernel, rfl, kw_35_20, kw_1_5, by decide +kernel, by decide +kernel, by decide, fun h => absurd h (by decide), fun _ => ⟨kw_35_18, by decide⟩, fun _ => kw_35_19, fun h => absurd h (by decide), xchk_ok xck197⟩
theorem xm198 : xMIok (yX7_strengthAll, cX7_strengthAll, 7, 1, 4, 1, 1, 0, 0, xt198) := ⟨by decide +kernel, rfl, kw_35_16, kw_1_5, by decide +kernel, by decide +kernel, by decide, fun h => absurd h (by decide), fun _ => ⟨kw_35_14, by decide⟩, fun _ => kw_35_15, fun h => absurd h (by decide), xchk_ok xck198⟩
theorem xm199 : xMIok (yX7_quietest, cX7_quietest, 7, 1, 7, 1, 1, 0, 0, xt199) := ⟨by decide +kernel, rfl, kw_34_20, kw_1_5, by decide +kernel, by decide +kernel, by decide, fun h => absurd h (by decide), fun _ => ⟨kw_34_18, by decide⟩, fun _ => kw_34_19, fun h => absurd h (by decide), xchk_ok xck199⟩
theorem xm200 : xMIok (yX7_tellsOf, cX7_tellsOf, 7, 2, 2, 1, 1, 0, 0, xt200) := ⟨by decide +kernel, rfl, kw_35_0, kw_1_5, by decide +kernel, by decide +kernel, by decide, fun h => absurd h (by decide), fun _ => ⟨kw_34_22, by decide⟩, fun _ => kw_34_23, fun h => absurd h (by decide), xchk_ok xck200⟩
theorem xm201 : xMIok (yX7_street, cX7_street, 7, 2, 2, 1, 1, 0, 0, xt201) := ⟨by decide +kernel, rfl, kw_34_16, kw_1_5, by decide +kernel, by decide +kernel, by decide, fun h => absurd h (by decide), fun _ => ⟨kw_34_14, by decide⟩, fun _ => kw_34_15, fun h => absurd h (by decide), xchk_ok xck201⟩
theorem xm202 : xMIok (yX7_way, cX7_way, 7, 3, 3, 1, 1, 0, 0, xt202) := ⟨by decide +kernel, rfl, kw_36_5, kw_1_5, by decide +kernel, by decide +kernel, by decide, fun h => absurd h (by decide), fun _ => ⟨kw_36_3, by decide⟩, fun _ => kw_36_4, fun h => absurd h (by decide), xchk_ok xck202⟩
theorem xm203 : xMIok (yX7_laysAside, cX7_laysAside, 7, 1, 2, 0, 1, 0, 0, xt203) := ⟨by decide +kernel, rfl, kw_37_13, kw_1_5, by decide +kernel, by decide +kernel, by decide, fun h => absurd h (by decide), fun _ => ⟨kw_37_11, by decide⟩, fun _ => kw_37_12, fun h => absurd h (by decide), xchk_ok xck203⟩
theorem xm204 : xMIok (yX7_laysBack, cX7_laysBack, 7, 1, 2, 0, 1, 0, 0, xt204) := ⟨by decide +kernel, rfl, kw_37_22, kw_1_5, by decide +kernel, by decide +kernel, by decide, fun h => absurd h (by decide), fun _ => ⟨kw_37_20, by decide⟩, fun _ => kw_37_21, fun h => absurd h (by decide), xchk_ok xck204⟩
theorem xm205 : xMIok (yX7_lives, cX7_lives, 7, 2, 3, 0, 1, 0, 0, xt205) := ⟨by decide +kernel, rfl, kw_37_18, kw_1_5, by decide +kernel, by decide +kernel, by decide, fun h => absurd h (by decide), fun _ => ⟨kw_37_16, by decide⟩, fun _ => kw_37_17, fun h => absurd h (by decide), xchk_ok xck205⟩
theorem xm206 : xMIok (yX7_run, cX7_run, 7, 3, 4, 1, 1, 0, 0, xt206) := ⟨by decide +kernel, rfl, kw_37_7, kw_1_5, by decide +kernel, by decide +kernel, by decide, fun h => absurd h (by decide), fun _ => ⟨kw_37_5, by decide⟩, fun _ => kw_37_6, fun h => absurd h (by decide), xchk_ok xck206⟩
theorem xm207 : xMIok (yX7_friendsBehind, cX7_friendsBehind, 7, 2, 3, 1, 1, 0, 0, xt207) := ⟨by decide +kernel, rfl, kw_38_22, kw_1_5, by decide +kernel, by decide +kernel, by decide, fun h => absurd h (by decide), fun _ => ⟨kw_38_20, by decide⟩, fun _ => kw_38_21, fun h => absurd h (by decide), xchk_ok xck207⟩
theorem xm208 : xMIok (yX7_takes, cX7_takes, 7, 2, 3, 1, 1, 0, 0, xt208) := ⟨by decide +kernel, rfl, kw_38_9, kw_1_5, by decide +kernel, by decide +kernel, by decide, fun h => absurd h (by decide), fun _ => ⟨kw_38_7, by decide⟩, fun _ => kw_38_8, fun h => absurd h (by decide), xchk_ok xck208⟩
theorem xm209 : xMIok (yX7_best, cX7_best, 7, 4, 9, 1, 1, 0, 0, xt209) := ⟨by decide +kernel, rfl, kw_38_18, kw_1_5, by decide +kernel, by decide +kernel, by decide, fun h => absurd h (by decide), fun _ => ⟨kw_38_16, by decide⟩, fun _ => kw_38_17, fun h => absurd h (by decide), xchk_ok xck209⟩
theorem xm210 : xMIok (yX7_change, cX7_change, 7, 3, 10, 1, 1, 0, 0, xt210) := ⟨by decide +kernel, rfl, kw_39_10, kw_1_5, by decide +kernel, by decide +kernel, by decide, fun h => absurd h (by decide), fun _ => ⟨kw_39_8, by decide⟩, fun _ => kw_39_9, fun h => absurd h (by decide), xchk_ok xck210⟩
theorem xm211 : xMIok (yX7_clears, cX7_clears, 7, 1, 2, 0, 1, 0, 0, xt211) := ⟨by decide +kernel, rfl, kw_39_23, kw_1_5, by decide +kernel, by decide +kernel, by decide, fun h => absurd h (by decide), fun _ => ⟨kw_39_21, by decide⟩, fun _ => kw_39_22, fun h => absurd h (by decide), xchk_ok xck211⟩
theorem xm212 : xMIok (yX7_sitsAgain, cX7_sitsAgain, 7, 1, 2, 0, 1, 0, 0, xt212) := ⟨by decide +kernel, rfl, kw_40_3, kw_1_5, by decide +kernel, by decide +kernel, by decide, fun h => absurd h (by decide), fun _ => ⟨kw_40_1, by decide⟩, fun _ => kw_40_2, fun h => absurd h (by decide), xchk_ok xck212⟩
theorem xm213 : xMIok (yX7_split, cX7_split, 7, 3, 7, 1, 1, 0, 0, xt213) := ⟨by decide +kernel, rfl, kw_39_18, kw_1_5, by decide +kernel, by decide +kernel, by decide, fun h => absurd h (by decide), fun _ => ⟨kw_39_16, by decide⟩, fun _ => kw_39_17, fun h => absurd h (by decide), xchk_ok xck213⟩
theorem xm214 : xMIok (yX7_missed, cX7_missed, 7, 2, 6, 1, 1, 0, 0, xt214) := ⟨by decide +kernel, rfl, kw_40_11, kw_1_5, by decide +kernel, by decide +kernel, by decide, fun h => absurd h (by decide), fun _ => ⟨kw_40_9, by decide⟩, fun _ => kw_40_10, fun h => absurd h (by decide), xchk_ok xck214⟩
theorem xm215 : xMIok (yX7_match, cX7_match, 7, 2, 7, 1, 1, 0, 0, xt215) := ⟨by decide +kernel, rfl, kw_41_0, kw_1_5, by decide +kernel, by decide +kernel, by decide, fun h => absurd h (by decide), fun _ => ⟨kw_40_22, by decide⟩, fun _ => kw_40_23, fun h => absurd h (by decide), xchk_ok xck215⟩
theorem xm216 : xMIok (yX7_unlike, cX7_unlike, 7, 3, 5, 1, 1, 0, 0, xt216) := ⟨by decide +kernel, rfl, kw_43_10, kw_1_5, by decide +kernel, by decide +kernel, by decide, fun h => absurd h (by decide), fun _ => ⟨kw_43_8, by decide⟩, fun _ => kw_43_9, fun h => absurd h (by decide), xchk_ok xck216⟩
theorem xm217 : xMIok (yX7_limitsBy, cX7_limitsBy, 7, 4, 9, 1, 1, 0, 0, xt217) := ⟨by decide +kernel, rfl, kw_43_14, kw_1_5, by decide +kernel, by decide +kernel, by decide, fun h => absurd h (by decide), fun _ => ⟨kw_43_12, by decide⟩, fun _ => kw_43_13, fun h => absurd h (by decide), xchk_ok xck217⟩
theorem xm218 : xMIok (yX7_tells, cX7_tells, 7, 4, 9, 1, 1, 0, 0, xt218) := ⟨by decide +kernel, rfl, kw_43_2, kw_1_5, by decide +kernel, by decide +kernel, by decide, fun h => absurd h (by decide), fun _ => ⟨kw_43_0, by decide⟩, fun _ => kw_43_1, fun h => absurd h (by decide), xchk_ok xck218⟩
theorem xm219 : xMIok (yX7_film, cX7_film, 7, 3, 4, 1, 1, 0, 0, xt219) := ⟨by decide +kernel, rfl, kw_44_6, kw_1_5, by decide +kernel, by decide +kernel, by decide, fun h => absurd h (by decide), fun _ => ⟨kw_44_4, by decide⟩, fun _ => kw_44_5, fun h => absurd h (by decide), xchk_ok xck219⟩
theorem xm220 : xMIok (yX7_friendsBy, cX7_friendsBy, 7, 3, 5, 1, 1, 0, 0, xt220) := ⟨by decide +kernel, rfl, kw_45_3, kw_1_5, by decide +kernel, by decide +kernel, by decide, fun h => absurd h (by decide), fun _ => ⟨kw_45_1, by decide⟩, fun _ => kw_45_2, fun h => absurd h (by decide), xchk_ok xck220⟩
theorem xm221 : xMIok (yX7_drawn, cX7_drawn, 7, 3, 3, 1, 1, 0, 0, xt221) := ⟨by decide +kernel, rfl, kw_44_23, kw_1_5, by decide +kernel, by decide +kernel, by decide, fun h => absurd h (by decide), fun _ => ⟨kw_44_21, by decide⟩, fun _ => kw_44_22, fun h => absurd h (by decide), xchk_ok xck221⟩
theorem xm222 : xMIok (yX7_chance, cX7_chance, 7, 5, 13, 2, 1, 0, 0, xt222) := ⟨by decide +kernel, rfl, kw_45_17, kw_1_5, by decide +kernel, by decide +kernel, by decide, fun h => absurd h (by decide), fun _ => ⟨kw_45_15, by decide⟩, fun _ => kw_45_16, fun h => absurd h (by decide), xchk_ok xck222⟩
theorem xm223 : xMIok (yX7_image, cX7_image, 7, 1, 2, 1, 1, 0, 0, xt223) := ⟨by decide +kernel, rfl, kw_46_3, kw_1_5, by decide +kernel, by decide +kernel, by decide, fun h => absurd h (by decide), fun _ => ⟨kw_46_1, by decide⟩, fun _ => kw_46_2, fun h => absurd h (by decide), xchk_ok xck223⟩
theorem xm224 : xMIok (yX7_back, cX7_back, 7, 1, 2, 1, 1, 0, 0, xt224) := ⟨by decide +kernel, rfl, kw_46_14, kw_1_5, by decide +kernel, by decide +kernel, by decide, fun h => absurd h (by decide), fun _ => ⟨kw_46_12, by decide⟩, fun _ => kw_46_13, fun h => absurd h (by decide), xchk_ok xck224⟩
theorem xm225 : xMIok (yX7_count, cX7_count, 7, 2, 4, 1, 1, 0, 0, xt225) := ⟨by decide +kernel, rfl, kw_47_2, kw_1_5, by decide +kernel, by decide +kernel, by decide, fun h => absurd h (by decide), fun _ => ⟨kw_47_0, by decide⟩, fun _ => kw_47_1, fun h => absurd h (by decide), xchk_ok xck225⟩
theorem xm226 : xMIok (yX7_isSheet, cX7_isSheet, 7, 1, 1, 3, 0, 0, 0, xt226) := ⟨by decide +kernel, rfl, kw_43_6, kw_1_5, by decide +kernel, by decide +kernel, by decide, fun _ => kw_43_5, fun h => absurd rfl h, fun h => absurd h (by decide), fun h => absurd h (by decide), xchk_ok xck226⟩
theorem xm227 : xMIok (yX7_sheet, cX7_sheet, 7, 4, 5, 1, 1, 0, 0, xt227) := ⟨by decide +kernel, rfl, kw_44_10, kw_1_5, by decide +kernel, by decide +kernel, by decide, fun h => absurd h (by decide), fun _ => ⟨kw_44_8, by decide⟩, fun _ => kw_44_9, fun h => absurd h (by decide), xchk_ok xck227⟩
theorem xm228 : xMIok (yX7_cell, cX7_cell, 7, 4, 4, 1, 1, 0, 0, xt228) := ⟨by decide +kernel, rfl, kw_47_22, kw_1_5, by decide +kernel, by decide +kernel, by decide, fun h => absurd h (by decide), fun _ => ⟨kw_47_20, by decide⟩, fun _ => kw_47_21, fun h => absurd h (by decide), xchk_ok xck228⟩
theorem xm229 : xMIok (yX7_copy, cX7_copy, 7, 6, 9, 1, 1, 0, 0, xt229) := ⟨by decide +kernel, rfl, kw_48_8, kw_1_5, by decide +kernel, by decide +kernel, by decide, fun h => absurd h (by decide), fun _ => ⟨kw_48_6, by decide⟩, fun _ => kw_48_7, fun h => absurd h (by decide), xchk_ok xck229⟩
theorem xm230 : xMIok (yX7_houses, cX7_houses, 7, 5, 8, 1, 1, 0, 0, xt230) := ⟨by decide +kernel, rfl, kw_48_16, kw_1_5, by decide +kernel, by decide +kernel, by decide, fun h => absurd h (by decide), fun _ => ⟨kw_48_14, by decide⟩, fun _ => kw_48_15, fun h => absurd h (by decide), xchk_ok xck230⟩
theorem xm231 : xMIok (yX7_over, cX7_over, 7, 1, 1, 1, 0, 0, 0, xt231) := ⟨by decide +kernel, rfl, kw_49_9, kw_1_5, by decide +kernel, by decide +kernel, by decide, fun _ => kw_49_8, fun h => absurd rfl h, fun h => absurd h (by decide), fun h => absurd h (by decide), xchk_ok xck231⟩
theorem xm232 : xMIok (yX7_taken, cX7_taken, 7, 3, 4, 1, 1, 0, 0, xt232) := ⟨by decide +kernel, rfl, kw_49_6, kw_1_5, by decide +kernel, by decide +kernel, by decide, fun h => absurd h (by decide), fun _ => ⟨kw_49_4, by decide⟩, fun _ => kw_49_5, fun h => absurd h (by decide), xchk_ok xck232⟩
theorem xm233 : xMIok (yJ6_bitCount_0f7a4, cJ6_bitCount_0f7a4, 16, 1, 1, 1, 0, 0, 0, xt233) := ⟨by decide +kernel, rfl, kw_33_12, kw_33_11, by decide +kernel, by decide +kernel, by decide, fun _ => kw_33_10, fun h => absurd rfl h, fun h => absurd h (by decide), fun h => absurd h (by decide), xchk_ok xck233⟩
theorem xm234 : xMIok (yJ0_length_8abf5, cJ0_length_8abf5, 10, 1, 1, 1, 1, 0, 0, xt234) := ⟨by decide +kernel, rfl, kw_3_20, kw_3_19, by decide +kernel, by decide +kernel, by decide, fun h => absurd h (by decide), fun _ => ⟨kw_3_17, by decide⟩, fun _ => kw_3_18, fun h => absurd h (by decide), xchk_ok xck234⟩
theorem xm235 : xMIok (yJ0_charAt_5068e, cJ0_charAt_5068e, 10, 2, 2, 5, 1, 0, 0, xt235) := ⟨by decide +kernel, rfl, kw_4_7, kw_3_19, by decide +kernel, by decide +kernel, by decide, fun h => absurd h (by decide), fun _ => ⟨kw_4_5, by decide⟩, fun _ => kw_4_6, fun h => absurd h (by decide), xchk_ok xck235⟩
theorem xm236 : xMIok (yJ0_coder_7d493, cJ0_coder_7d493, 10, 1, 1, 4, 1, 0, 0, xt236) := ⟨by decide +kernel, rfl, kw_4_1, kw_3_19, by decide +kernel, by decide +kernel, by decide, fun h => absurd h (by decide), fun _ => ⟨kw_3_23, by decide⟩, fun _ => kw_4_0, fun h => absurd h (by decide), xchk_ok xck236⟩
theorem xm237 : xMIok (yJ0_isLatin1_aae02, cJ0_isLatin1_aae02, 10, 1, 1, 3, 1, 0, 0, xt237) := ⟨by decide +kernel, rfl, kw_4_11, kw_3_19, by decide +kernel, by decide +kernel, by decide, fun h => absurd h (by decide), fun _ => ⟨kw_4_9, by decide⟩, fun _ => kw_4_10, fun h => absurd h (by decide), xchk_ok xck237⟩
theorem xm238 : xMIok (yJ0_checkIndex_df160, cJ0_checkIndex_df160, 10, 2, 2, 0, 0, 0, 0, xt238) := ⟨by decide +kernel, rfl, kw_4_18, kw_3_19, by decide +kernel, by decide +kernel, by decide, fun _ => kw_4_17, fun h => absurd rfl h, fun h => absurd h (by decide), fun h => absurd h (by decide), xchk_ok xck238⟩
theorem xm239 : xMIok (yJ1_charAt_3b067, cJ1_charAt_3b067, 11, 2, 2, 5, 0, 0, 0, xt239) := ⟨by decide +kernel, rfl, kw_4_15, kw_4_14, by decide +kernel, by decide +kernel, by decide, fun _ => kw_4_13, fun h => absurd rfl h, fun h => absurd h (by decide), fun h => absurd h (by decide), xchk_ok xck239⟩
theorem xm240 : xMIok (yJ2_getChar_3b067, cJ2_getChar_3b067, 12, 2, 2, 5, 0, 0, 0, xt240) := ⟨by decide +kernel, rfl, kw_5_13, kw_5_2, by decide +kernel, by decide +kernel, by decide, fun _ => kw_5_12, fun h => absurd rfl h, fun h => absurd h (by decide), fun h => absurd h (by decide), xchk_ok xck240⟩
theorem xm241 : xMIok (yJ2_length_9d52b, cJ2_length_9d52b, 12, 1, 1, 1, 0, 0, 0, xt241) := ⟨by decide +kernel, rfl, kw_5_9, kw_5_2, by decide +kernel, by decide +kernel, by decide, fun _ => kw_5_8, fun h => absurd rfl h, fun h => absurd h (by decide), fun h => absurd h (by decide), xchk_ok xck241⟩
theorem xm242 : xMIok (yJ2_charAt_3b067, cJ2_charAt_3b067, 12, 2, 2, 5, 0, 0, 0, xt242) := ⟨by decide +kernel, rfl, kw_5_3, kw_5_2, by decide +kernel, by decide +kernel, by decide, fun _ => kw_5_1, fun h => absurd rfl h, fun h => absurd h (by decide), fun h => absurd h (by decide), xchk_ok xck242⟩
theorem xm243 : xMIok (yJ2_checkIndex_2214a, cJ2_checkIndex_2214a, 12, 2, 2, 0, 0, 0, 0, xt243) := ⟨by decide +kernel, rfl, kw_5_6, kw_5_2, by decide +kernel, by decide +kernel, by decide, fun _ => kw_5_5, fun h => absurd rfl h, fun h => absurd h (by decide), fun h => absurd h (by decide), xchk_ok xck243⟩
theorem xm244 : xMIok (yJ3_checkIndex_8e157, cJ3_checkIndex_8e157, 13, 3, 3, 1, 0, 0, 0, xt244) := ⟨by decide +kernel, rfl, kw_4_23, kw_4_22, by decide +kernel, by decide +kernel, by decide, fun _ => kw_4_21, fun h => absurd rfl h, fun h => absurd h (by decide), fun h => absurd h (by decide), xchk_ok xck244⟩
theorem xmi_ok0 : ∀ mi ∈ xmiL0, xMIok mi := List.forall_mem_cons.mpr ⟨xm0, List.forall_mem_cons.mpr ⟨xm1, List.forall_mem_cons.mpr ⟨xm2, List.forall_mem_cons.mpr ⟨xm3, List.forall_mem_cons.mpr ⟨xm4, List.forall_mem_cons.mpr ⟨xm5, List.forall_mem_cons.mpr ⟨xm6, List.forall_mem_cons.mpr ⟨xm7, List.forall_mem_cons.mpr ⟨xm8, List.forall_mem_cons.mpr ⟨xm9, List.forall_mem_cons.mpr ⟨xm10, List.forall_mem_cons.mpr ⟨xm11, List.forall_mem_cons.mpr ⟨xm12, List.forall_mem_cons.mpr ⟨xm13, List.forall_mem_cons.mpr ⟨xm14, List.forall_mem_cons.mpr ⟨xm15, fun _ h => absurd h List.not_mem_nil⟩⟩⟩⟩⟩⟩⟩⟩⟩⟩⟩⟩⟩⟩⟩⟩
theorem xmi_ok1 : ∀ mi ∈ xmiL1, xMIok mi := List.forall_mem_cons.mpr ⟨xm16, List.forall_mem_cons.mpr ⟨xm17, List.forall_mem_cons.mpr ⟨xm18, List.forall_mem_cons.mpr ⟨xm19, List.forall_mem_cons.mpr ⟨xm20, List.forall_mem_cons.mpr ⟨xm21, List.forall_mem_cons.mpr ⟨xm22, List.forall_mem_cons.mpr ⟨xm23, List.forall_mem_cons.mpr ⟨xm24, List.forall_mem_cons.mpr ⟨xm25, List.forall_mem_cons.mpr ⟨xm26, List.forall_mem_cons.mpr ⟨xm27, List.forall_mem_cons.mpr ⟨xm28, List.forall_mem_cons.mpr ⟨xm29, List.forall_mem_cons.mpr ⟨xm30, List.forall_mem_cons.mpr ⟨xm31, fun _ h => absurd h List.not_mem_nil⟩⟩⟩⟩⟩⟩⟩⟩⟩⟩⟩⟩⟩⟩⟩⟩
theorem xmi_ok2 : ∀ mi ∈ xmiL2, xMIok mi := List.forall_mem_cons.mpr ⟨xm32, List.forall_mem_cons.mpr ⟨xm33, List.forall_mem_cons.mpr ⟨xm34, List.forall_mem_cons.mpr ⟨xm35, List.forall_mem_cons.mpr ⟨xm36, List.forall_mem_cons.mpr ⟨xm37, List.forall_mem_cons.mpr ⟨xm38, List.forall_mem_cons.mpr ⟨xm39, List.forall_mem_cons.mpr ⟨xm40, List.forall_mem_cons.mpr ⟨xm41, List.forall_mem_cons.mpr ⟨xm42, List.forall_mem_cons.mpr ⟨xm43, List.forall_mem_cons.mpr ⟨xm44, List.forall_mem_cons.mpr ⟨xm45, List.forall_mem_cons.mpr ⟨xm46, List.forall_mem_cons.mpr ⟨xm47, fun _ h => absurd h List.not_mem_nil⟩⟩⟩⟩⟩⟩⟩⟩⟩⟩⟩⟩⟩⟩⟩⟩
theorem xmi_ok3 : ∀ mi ∈ xmiL3, xMIok mi := List.forall_mem_cons.mpr ⟨xm48, List.forall_mem_cons.mpr ⟨xm49, List.forall_mem_cons.mpr ⟨xm50, List.forall_mem_cons.mpr ⟨xm51, List.forall_mem_cons.mpr ⟨xm52, List.forall_mem_cons.mpr ⟨xm53, List.forall_mem_cons.mpr ⟨xm54, List.forall_mem_cons.mpr ⟨xm55, List.forall_mem_cons.mpr ⟨xm56, List.forall_mem_cons.mpr ⟨xm57, List.forall_mem_cons.mpr ⟨xm58, List.forall_mem_cons.mpr ⟨xm59, List.forall_mem_cons.mpr ⟨xm60, List.forall_mem_cons.mpr ⟨xm61, List.forall_mem_cons.mpr ⟨xm62, List.forall_mem_cons.mpr ⟨xm63, fun _ h => absurd h List.not_mem_nil⟩⟩⟩⟩⟩⟩⟩⟩⟩⟩⟩⟩⟩⟩⟩⟩
theorem xmi_ok4 : ∀ mi ∈ xmiL4, xMIok mi := List.forall_mem_cons.mpr ⟨xm64, List.forall_mem_cons.mpr ⟨xm65, List.forall_mem_cons.mpr ⟨xm66, List.forall_mem_cons.mpr ⟨xm67, List.forall_mem_cons.mpr ⟨xm68, List.forall_mem_cons.mpr ⟨xm69, List.forall_mem_cons.mpr ⟨xm70, List.forall_mem_cons.mpr ⟨xm71, List.forall_mem_cons.mpr ⟨xm72, List.forall_mem_cons.mpr ⟨xm73, List.forall_mem_cons.mpr ⟨xm74, List.forall_mem_cons.mpr ⟨xm75, List.forall_mem_cons.mpr ⟨xm76, List.forall_mem_cons.mpr ⟨xm77, List.forall_mem_cons.mpr ⟨xm78, List.forall_mem_cons.mpr ⟨xm79, fun _ h => absurd h List.not_mem_nil⟩⟩⟩⟩⟩⟩⟩⟩⟩⟩⟩⟩⟩⟩⟩⟩
theorem xmi_ok5 : ∀ mi ∈ xmiL5, xMIok mi := List.forall_mem_cons.mpr ⟨xm80, List.forall_mem_cons.mpr ⟨xm81, List.forall_mem_cons.mpr ⟨xm82, List.forall_mem_cons.mpr ⟨xm83, List.forall_mem_cons.mpr ⟨xm84, List.forall_mem_cons.mpr ⟨xm85, List.forall_mem_cons.mpr ⟨xm86, List.forall_mem_cons.mpr ⟨xm87, List.forall_mem_cons.mpr ⟨xm88, List.forall_mem_cons.mpr ⟨xm89, List.forall_mem_cons.mpr ⟨xm90, List.forall_mem_cons.mpr ⟨xm91, List.forall_mem_cons.mpr ⟨xm92, List.forall_mem_cons.mpr ⟨xm93, List.forall_mem_cons.mpr ⟨xm94, List.forall_mem_cons.mpr ⟨xm95, fun _ h => absurd h List.not_mem_nil⟩⟩⟩⟩⟩⟩⟩⟩⟩⟩⟩⟩⟩⟩⟩⟩
theorem xmi_ok6 : ∀ mi ∈ xmiL6, xMIok mi := List.forall_mem_cons.mpr ⟨xm96, List.forall_mem_cons.mpr ⟨xm97, List.forall_mem_cons.mpr ⟨xm98, List.forall_mem_cons.mpr ⟨xm99, List.forall_mem_cons.mpr ⟨xm100, List.forall_mem_cons.mpr ⟨xm101, List.forall_mem_cons.mpr ⟨xm102, List.forall_mem_cons.mpr ⟨xm103, List.forall_mem_cons.mpr ⟨xm104, List.forall_mem_cons.mpr ⟨xm105, List.forall_mem_cons.mpr ⟨xm106, List.forall_mem_cons.mpr ⟨xm107, List.forall_mem_cons.mpr ⟨xm108, List.forall_mem_cons.mpr ⟨xm109, List.forall_mem_cons.mpr ⟨xm110, List.forall_mem_cons.mpr ⟨xm111, fun _ h => absurd h List.not_mem_nil⟩⟩⟩⟩⟩⟩⟩⟩⟩⟩⟩⟩⟩⟩⟩⟩
theorem xmi_ok7 : ∀ mi ∈ xmiL7, xMIok mi := List.forall_mem_cons.mpr ⟨xm112, List.forall_mem_cons.mpr ⟨xm113, List.forall_mem_cons.mpr ⟨xm114, List.forall_mem_cons.mpr ⟨xm115, List.forall_mem_cons.mpr ⟨xm116, List.forall_mem_cons.mpr ⟨xm117, List.forall_mem_cons.mpr ⟨xm118, List.forall_mem_cons.mpr ⟨xm119, List.forall_mem_cons.mpr ⟨xm120, List.forall_mem_cons.mpr ⟨xm121, List.forall_mem_cons.mpr ⟨xm122, List.forall_mem_cons.mpr ⟨xm123, List.forall_mem_cons.mpr ⟨xm124, List.forall_mem_cons.mpr ⟨xm125, List.forall_mem_cons.mpr ⟨xm126, List.forall_mem_cons.mpr ⟨xm127, fun _ h => absurd h List.not_mem_nil⟩⟩⟩⟩⟩⟩⟩⟩⟩⟩⟩⟩⟩⟩⟩⟩
theorem xmi_ok8 : ∀ mi ∈ xmiL8, xMIok mi := List.forall_mem_cons.mpr ⟨xm128, List.forall_mem_cons.mpr ⟨xm129, List.forall_mem_cons.mpr ⟨xm130, List.forall_mem_cons.mpr ⟨xm131, List.forall_mem_cons.mpr ⟨xm132, List.forall_mem_cons.mpr ⟨xm133, List.forall_mem_cons.mpr ⟨xm134, List.forall_mem_cons.mpr ⟨xm135, List.forall_mem_cons.mpr ⟨xm136, List.forall_mem_cons.mpr ⟨xm137, List.forall_mem_cons.mpr ⟨xm138, List.forall_mem_cons.mpr ⟨xm139, List.forall_mem_cons.mpr ⟨xm140, List.forall_mem_cons.mpr ⟨xm141, List.forall_mem_cons.mpr ⟨xm142, List.forall_mem_cons.mpr ⟨xm143, fun _ h => absurd h List.not_mem_nil⟩⟩⟩⟩⟩⟩⟩⟩⟩⟩⟩⟩⟩⟩⟩⟩
theorem xmi_ok9 : ∀ mi ∈ xmiL9, xMIok mi := List.forall_mem_cons.mpr ⟨xm144, List.forall_mem_cons.mpr ⟨xm145, List.forall_mem_cons.mpr ⟨xm146, List.forall_mem_cons.mpr ⟨xm147, List.forall_mem_cons.mpr ⟨xm148, List.forall_mem_cons.mpr ⟨xm149, List.forall_mem_cons.mpr ⟨xm150, List.forall_mem_cons.mpr ⟨xm151, List.forall_mem_cons.mpr ⟨xm152, List.forall_mem_cons.mpr ⟨xm153, List.forall_mem_cons.mpr ⟨xm154, List.forall_mem_cons.mpr ⟨xm155, List.forall_mem_cons.mpr ⟨xm156, List.forall_mem_cons.mpr ⟨xm157, List.forall_mem_cons.mpr ⟨xm158, List.forall_mem_cons.mpr ⟨xm159, fun _ h => absurd h List.not_mem_nil⟩⟩⟩⟩⟩⟩⟩⟩⟩⟩⟩⟩⟩⟩⟩⟩
theorem xmi_ok10 : ∀ mi ∈ xmiL10, xMIok mi := List.forall_mem_cons.mpr ⟨xm160, List.forall_mem_cons.mpr ⟨xm161, List.forall_mem_cons.mpr ⟨xm162, List.forall_mem_cons.mpr ⟨xm163, List.forall_mem_cons.mpr ⟨xm164, List.forall_mem_cons.mpr ⟨xm165, List.forall_mem_cons.mpr ⟨xm166, List.forall_mem_cons.mpr ⟨xm167, List.forall_mem_cons.mpr ⟨xm168, List.forall_mem_cons.mpr ⟨xm169, List.forall_mem_cons.mpr ⟨xm170, List.forall_mem_cons.mpr ⟨xm171, List.forall_mem_cons.mpr ⟨xm172, List.forall_mem_cons.mpr ⟨xm173, List.forall_mem_cons.mpr ⟨xm174, List.forall_mem_cons.mpr ⟨xm175, fun _ h => absurd h List.not_mem_nil⟩⟩⟩⟩⟩⟩⟩⟩⟩⟩⟩⟩⟩⟩⟩⟩
theorem xmi_ok11 : ∀ mi ∈ xmiL11, xMIok mi := List.forall_mem_cons.mpr ⟨xm176, List.forall_mem_cons.mpr ⟨xm177, List.forall_mem_cons.mpr ⟨xm178, List.forall_mem_cons.mpr ⟨xm179, List.forall_mem_cons.mpr ⟨xm180, List.forall_mem_cons.mpr ⟨xm181, List.forall_mem_cons.mpr ⟨xm182, List.forall_mem_cons.mpr ⟨xm183, List.forall_mem_cons.mpr ⟨xm184, List.forall_mem_cons.mpr ⟨xm185, List.forall_mem_cons.mpr ⟨xm186, List.forall_mem_cons.mpr ⟨xm187, List.forall_mem_cons.mpr ⟨xm188, List.forall_mem_cons.mpr ⟨xm189, List.forall_mem_cons.mpr ⟨xm190, List.forall_mem_cons.mpr ⟨xm191, fun _ h => absurd h List.not_mem_nil⟩⟩⟩⟩⟩⟩⟩⟩⟩⟩⟩⟩⟩⟩⟩⟩
theorem xmi_ok12 : ∀ mi ∈ xmiL12, xMIok mi := List.forall_mem_cons.mpr ⟨xm192, List.forall_mem_cons.mpr ⟨xm193, List.forall_mem_cons.mpr ⟨xm194, List.forall_mem_cons.mpr ⟨xm195, List.forall_mem_cons.mpr ⟨xm196, List.forall_mem_cons.mpr ⟨xm197, List.forall_mem_cons.mpr ⟨xm198, List.forall_mem_cons.mpr ⟨xm199, List.forall_mem_cons.mpr ⟨xm200, List.forall_mem_cons.mpr ⟨xm201, List.forall_mem_cons.mpr ⟨xm202, List.forall_mem_cons.mpr ⟨xm203, List.forall_mem_cons.mpr ⟨xm204, List.forall_mem_cons.mpr ⟨xm205, List.forall_mem_cons.mpr ⟨xm206, List.forall_mem_cons.mpr ⟨xm207, fun _ h => absurd h List.not_mem_nil⟩⟩⟩⟩⟩⟩⟩⟩⟩⟩⟩⟩⟩⟩⟩⟩
theorem xmi_ok13 : ∀ mi ∈ xmiL13, xMIok mi := List.forall_mem_cons.mpr ⟨xm208, List.forall_mem_cons.mpr ⟨xm209, List.forall_mem_cons.mpr ⟨xm210, List.forall_mem_cons.mpr ⟨xm211, List.forall_mem_cons.mpr ⟨xm212, List.forall_mem_cons.mpr ⟨xm213, List.forall_mem_cons.mpr ⟨xm214, List.forall_mem_cons.mpr ⟨xm215, List.forall_mem_cons.mpr ⟨xm216, List.forall_mem_cons.mpr ⟨xm217, List.forall_mem_cons.mpr ⟨xm218, List.forall_mem_cons.mpr ⟨xm219, List.forall_mem_cons.mpr ⟨xm220, List.forall_mem_cons.mpr ⟨xm221, List.forall_mem_cons.mpr ⟨xm222, List.forall_mem_cons.mpr ⟨xm223, fun _ h => absurd h List.not_mem_nil⟩⟩⟩⟩⟩⟩⟩⟩⟩⟩⟩⟩⟩⟩⟩⟩
theorem xmi_ok14 : ∀ mi ∈ xmiL14, xMIok mi := List.forall_mem_cons.mpr ⟨xm224, List.forall_mem_cons.mpr ⟨xm225, List.forall_mem_cons.mpr ⟨xm226, List.forall_mem_cons.mpr ⟨xm227, List.forall_mem_cons.mpr ⟨xm228, List.forall_mem_cons.mpr ⟨xm229, List.forall_mem_cons.mpr ⟨xm230, List.forall_mem_cons.mpr ⟨xm231, List.forall_mem_cons.mpr ⟨xm232, List.forall_mem_cons.mpr ⟨xm233, List.forall_mem_cons.mpr ⟨xm234, List.forall_mem_cons.mpr ⟨xm235, List.forall_mem_cons.mpr ⟨xm236, List.forall_mem_cons.mpr ⟨xm237, List.forall_mem_cons.mpr ⟨xm238, List.forall_mem_cons.mpr ⟨xm239, fun _ h => absurd h List.not_mem_nil⟩⟩⟩⟩⟩⟩⟩⟩⟩⟩⟩⟩⟩⟩⟩⟩
theorem xmi_ok15 : ∀ mi ∈ xmiL15, xMIok mi := List.forall_mem_cons.mpr ⟨xm240, List.forall_mem_cons.mpr ⟨xm241, List.forall_mem_cons.mpr ⟨xm242, List.forall_mem_cons.mpr ⟨xm243, List.forall_mem_cons.mpr ⟨xm244, fun _ h => absurd h List.not_mem_nil⟩⟩⟩⟩⟩
theorem xmi_all : ∀ l ∈ xmiL, ∀ mi ∈ l, xMIok mi := List.forall_mem_cons.mpr ⟨xmi_ok0, List.forall_mem_cons.mpr ⟨xmi_ok1, List.forall_mem_cons.mpr ⟨xmi_ok2, List.forall_mem_cons.mpr ⟨xmi_ok3, List.forall_mem_cons.mpr ⟨xmi_ok4, List.forall_mem_cons.mpr ⟨xmi_ok5, List.forall_mem_cons.mpr ⟨xmi_ok6, List.forall_mem_cons.mpr ⟨xmi_ok7, List.forall_mem_cons.mpr ⟨xmi_ok8, List.forall_mem_cons.mpr ⟨xmi_ok9, List.forall_mem_cons.mpr ⟨xmi_ok10, List.forall_mem_cons.mpr ⟨xmi_ok11, List.forall_mem_cons.mpr ⟨xmi_ok12, List.forall_mem_cons.mpr ⟨xmi_ok13, List.forall_mem_cons.mpr ⟨xmi_ok14, List.forall_mem_cons.mpr ⟨xmi_ok15, fun _ h => absurd h List.not_mem_nil⟩⟩⟩⟩⟩⟩⟩⟩⟩⟩⟩⟩⟩⟩⟩⟩
theorem xmi_ok {j : Nat} {mi : xMI} (h : xmi j = some mi) : xMIok mi := by
  unfold xmi at h
  rw [xnth_eq] at h
  cases hl : xmiL[j / 16]? with
  | none => rw [hl] at h; cases h
  | some l =>
    rw [hl] at h
    simp only [xnth_eq] at h
    exact xmi_all l (List.mem_of_getElem? hl) mi (List.mem_of_getElem? h)
def xML (own : Nat) (e : Nat × Nat) : Prop := (e.2 = 0 ∧ Cond.methodLink (xcn own) e.1 objectInit ∈ wsL_law) ∨ (e.2 = 1 ∧ Cond.methodLink (xcn own) e.1 arraycopyName ∈ wsL_law) ∨ (e.2 = 2 ∧ Cond.methodLink (xcn own) e.1 Lib.Math.max.name ∈ wsL_law) ∨ (e.2 = 3 ∧ Cond.methodLink (xcn own) e.1 Lib.Math.min.name ∈ wsL_law) ∨ (e.2 = 4 ∧ Cond.methodLink (xcn own) e.1 Lib.Math.abs.name ∈ wsL_law) ∨ (10 ≤ e.2 ∧ ∃ nm, (xmi (e.2 - 10)).map (fun mi => mi.1) = some nm ∧ (Cond.methodLink (xcn own) e.1 nm ∈ wsL_law ∨ (own, e.1, nm) ∈ xNest))
theorem xml_ok0 : ∀ e ∈ xmlL0, xML 0 e := List.forall_mem_cons.mpr ⟨Or.inr (Or.inr (Or.inr (Or.inr (Or.inr ⟨by decide, yX0_companyOf, rfl, Or.inl kw_32_19⟩)))), List.forall_mem_cons.mpr ⟨Or.inr (Or.inr (Or.inr (Or.inr (Or.inr ⟨by decide, yX0_further, rfl, Or.inl kw_32_23⟩)))), List.forall_mem_cons.mpr ⟨Or.inr (Or.inr (Or.inl ⟨rfl, kw_33_7⟩)), List.forall_mem_cons.mpr ⟨Or.inl ⟨rfl, kw_3_1⟩, List.forall_mem_cons.mpr ⟨Or.inr (Or.inr (Or.inr (Or.inr (Or.inr ⟨by decide, yX3_knows, rfl, Or.inl kw_32_10⟩)))), List.forall_mem_cons.mpr ⟨Or.inr (Or.inr (Or.inr (Or.inr (Or.inr ⟨by decide, yX0_everyone, rfl, Or.inl kw_33_8⟩)))), List.forall_mem_cons.mpr ⟨Or.inr (Or.inr (Or.inr (Or.inr (Or.inr ⟨by decide, yJ6_bitCount_0f7a4, rfl, Or.inl kw_33_9⟩)))), List.forall_mem_cons.mpr ⟨Or.inr (Or.inr (Or.inr (Or.inr (Or.inr ⟨by decide, yX0_distance, rfl, Or.inl kw_34_0⟩)))), fun _ h => absurd h List.not_mem_nil⟩⟩⟩⟩⟩⟩⟩⟩
theorem xml_ok1 : ∀ e ∈ xmlL1, xML 1 e := List.forall_mem_cons.mpr ⟨Or.inr (Or.inr (Or.inr (Or.inr (Or.inr ⟨by decide, yX1_read, rfl, Or.inl kw_8_22⟩)))), List.forall_mem_cons.mpr ⟨Or.inr (Or.inr (Or.inr (Or.inr (Or.inr ⟨by decide, yX1_next, rfl, Or.inl kw_8_13⟩)))), List.forall_mem_cons.mpr ⟨Or.inr (Or.inr (Or.inr (Or.inr (Or.inr ⟨by decide, yX1_fail, rfl, Or.inl kw_8_17⟩)))), List.forall_mem_cons.mpr ⟨Or.inr (Or.inr (Or.inr (Or.inr (Or.inr ⟨by decide, yX5_write, rfl, Or.inl kw_9_9⟩)))), List.forall_mem_cons.mpr ⟨Or.inr (Or.inr (Or.inr (Or.inr (Or.inr ⟨by decide, yX1_readPart, rfl, Or.inl kw_8_5⟩)))), List.forall_mem_cons.mpr ⟨Or.inr (Or.inr (Or.inr (Or.inr (Or.inr ⟨by decide, yX1_expect, rfl, Or.inl kw_8_9⟩)))), List.forall_mem_cons.mpr ⟨Or.inr (Or.inr (Or.inr (Or.inr (Or.inr ⟨by decide, yX1_opens, rfl, Or.inl kw_9_5⟩)))), List.forall_mem_cons.mpr ⟨Or.inr (Or.inr (Or.inr (Or.inr (Or.inr ⟨by decide, yX1_readOne, rfl, Or.inl kw_9_2⟩)))), List.forall_mem_cons.mpr ⟨Or.inl ⟨rfl, kw_6_1⟩, List.forall_mem_cons.mpr ⟨Or.inr (Or.inr (Or.inr (Or.inr (Or.inr ⟨by decide, yX5_clear, rfl, Or.inl kw_6_12⟩)))), List.forall_mem_cons.mpr ⟨Or.inr (Or.inr (Or.inr (Or.inr (Or.inr ⟨by decide, yX4_cut, rfl, Or.inl kw_6_17⟩)))), List.forall_mem_cons.mpr ⟨Or.inr (Or.inr (Or.inr (Or.inr (Or.inr ⟨by decide, yX1_levelOf, rfl, Or.inl kw_9_13⟩)))), List.forall_mem_cons.mpr ⟨Or.inr (Or.inr (Or.inr (Or.inr (Or.inr ⟨by decide, yX1_operationOf, rfl, Or.inl kw_9_16⟩)))), List.forall_mem_cons.mpr ⟨Or.inr (Or.inr (Or.inr (Or.inr (Or.inr ⟨by decide, yX5_endPart, rfl, Or.inl kw_9_21⟩)))), fun _ h => absurd h List.not_mem_nil⟩⟩⟩⟩⟩⟩⟩⟩⟩⟩⟩⟩⟩⟩
theorem xml_ok2 : ∀ e ∈ xmlL2, xML 2 e := List.forall_mem_cons.mpr ⟨Or.inl ⟨rfl, kw_3_13⟩, fun _ h => absurd h List.not_mem_nil⟩
theorem xml_ok3 : ∀ e ∈ xmlL3, xML 3 e := List.forall_mem_cons.mpr ⟨Or.inr (Or.inl ⟨rfl, kw_36_17⟩), List.forall_mem_cons.mpr ⟨Or.inr (Or.inr (Or.inr (Or.inr (Or.inr ⟨by decide, yX3_look, rfl, Or.inl kw_26_12⟩)))), List.forall_mem_cons.mpr ⟨Or.inr (Or.inr (Or.inr (Or.inr (Or.inr ⟨by decide, yX3_seatsAt, rfl, Or.inl kw_26_21⟩)))), List.forall_mem_cons.mpr ⟨Or.inr (Or.inr (Or.inr (Or.inr (Or.inr ⟨by decide, yX5_value, rfl, Or.inl kw_26_22⟩)))), List.forall_mem_cons.mpr ⟨Or.inr (Or.inr (Or.inr (Or.inr (Or.inr ⟨by decide, yX3_knows, rfl, Or.inl kw_26_0⟩)))), List.forall_mem_cons.mpr ⟨Or.inr (Or.inr (Or.inr (Or.inr (Or.inr ⟨by decide, yX3_meets, rfl, Or.inl kw_30_8⟩)))), List.forall_mem_cons.mpr ⟨Or.inr (Or.inr (Or.inr (Or.inr (Or.inr ⟨by decide, yX3_tie, rfl, Or.inl kw_30_9⟩)))), List.forall_mem_cons.mpr ⟨Or.inr (Or.inr (Or.inr (Or.inr (Or.inr ⟨by decide, yX3_forgets, rfl, Or.inl kw_31_11⟩)))), List.forall_mem_cons.mpr ⟨Or.inl ⟨rfl, kw_10_8⟩, List.forall_mem_cons.mpr ⟨Or.inr (Or.inr (Or.inr (Or.inr (Or.inl ⟨rfl, kw_26_17⟩)))), List.forall_mem_cons.mpr ⟨Or.inr (Or.inr (Or.inr (Or.inl ⟨rfl, kw_30_7⟩))), List.forall_mem_cons.mpr ⟨Or.inr (Or.inr (Or.inl ⟨rfl, kw_31_10⟩)), List.forall_mem_cons.mpr ⟨Or.inr (Or.inr (Or.inr (Or.inr (Or.inr ⟨by decide, yX3_dinAt, rfl, Or.inl kw_34_8⟩)))), List.forall_mem_cons.mpr ⟨Or.inr (Or.inr (Or.inr (Or.inr (Or.inr ⟨by decide, yX3_sounds, rfl, Or.inl kw_34_12⟩)))), List.forall_mem_cons.mpr ⟨Or.inr (Or.inr (Or.inr (Or.inr (Or.inr ⟨by decide, yX3_holdFeast, rfl, Or.inl kw_37_1⟩)))), List.forall_mem_cons.mpr ⟨Or.inr (Or.inr (Or.inr (Or.inr (Or.inr ⟨by decide, yX3_endYear, rfl, Or.inl kw_37_2⟩)))), List.forall_mem_cons.mpr ⟨Or.inr (Or.inr (Or.inr (Or.inr (Or.inr ⟨by decide, yX3_friends, rfl, Or.inl kw_37_3⟩)))), fun _ h => absurd h List.not_mem_nil⟩⟩⟩⟩⟩⟩⟩⟩⟩⟩⟩⟩⟩⟩⟩⟩⟩
theorem xml_ok4 : ∀ e ∈ xmlL4, xML 4 e := List.forall_mem_cons.mpr ⟨Or.inr (Or.inr (Or.inr (Or.inr (Or.inr ⟨by decide, yX4_reads, rfl, Or.inl kw_7_19⟩)))), List.forall_mem_cons.mpr ⟨Or.inr (Or.inr (Or.inr (Or.inr (Or.inr ⟨by decide, yX4_isDigit, rfl, Or.inl kw_7_1⟩)))), List.forall_mem_cons.mpr ⟨Or.inr (Or.inr (Or.inr (Or.inr (Or.inr ⟨by decide, yX4_isSmall, rfl, Or.inl kw_7_8⟩)))), List.forall_mem_cons.mpr ⟨Or.inr (Or.inr (Or.inr (Or.inr (Or.inr ⟨by decide, yJ0_length_8abf5, rfl, Or.inl kw_7_23⟩)))), List.forall_mem_cons.mpr ⟨Or.inl ⟨rfl, kw_2_17⟩, List.forall_mem_cons.mpr ⟨Or.inr (Or.inr (Or.inr (Or.inr (Or.inr ⟨by decide, yX4_isBlank, rfl, Or.inl kw_6_22⟩)))), List.forall_mem_cons.mpr ⟨Or.inr (Or.inr (Or.inr (Or.inr (Or.inr ⟨by decide, yX4_cutNumber, rfl, Or.inl kw_7_4⟩)))), List.forall_mem_cons.mpr ⟨Or.inr (Or.inr (Or.inr (Or.inr (Or.inr ⟨by decide, yX4_cutWord, rfl, Or.inl kw_7_11⟩)))), List.forall_mem_cons.mpr ⟨Or.inr (Or.inr (Or.inr (Or.inr (Or.inr ⟨by decide, yX4_nameFrom, rfl, Or.inl kw_7_15⟩)))), List.forall_mem_cons.mpr ⟨Or.inr (Or.inr (Or.inr (Or.inr (Or.inr ⟨by decide, yJ0_charAt_5068e, rfl, Or.inl kw_8_0⟩)))), List.forall_mem_cons.mpr ⟨Or.inr (Or.inr (Or.inr (Or.inr (Or.inr ⟨by decide, yX4_keyFrom, rfl, Or.inl kw_8_1⟩)))), fun _ h => absurd h List.not_mem_nil⟩⟩⟩⟩⟩⟩⟩⟩⟩⟩⟩
theorem xml_ok5 : ∀ e ∈ xmlL5, xML 5 e := List.forall_mem_cons.mpr ⟨Or.inl ⟨rfl, kw_3_6⟩, List.forall_mem_cons.mpr ⟨Or.inr (Or.inr (Or.inr (Or.inl ⟨rfl, kw_27_2⟩))), List.forall_mem_cons.mpr ⟨Or.inr (Or.inr (Or.inl ⟨rfl, kw_27_5⟩)), List.forall_mem_cons.mpr ⟨Or.inr (Or.inr (Or.inr (Or.inr (Or.inr ⟨by decide, yX5_turned, rfl, Or.inl kw_27_8⟩)))), List.forall_mem_cons.mpr ⟨Or.inr (Or.inr (Or.inr (Or.inr (Or.inr ⟨by decide, yX5_joined, rfl, Or.inl kw_27_11⟩)))), fun _ h => absurd h List.not_mem_nil⟩⟩⟩⟩⟩
theorem xml_ok6 : ∀ e ∈ xmlL6, xML 6 e := List.forall_mem_cons.mpr ⟨Or.inr (Or.inr (Or.inr (Or.inr (Or.inr ⟨by decide, yX3_become, rfl, Or.inl kw_36_13⟩)))), List.forall_mem_cons.mpr ⟨Or.inr (Or.inr (Or.inr (Or.inr (Or.inr ⟨by decide, yX6_isHouse, rfl, Or.inl kw_12_11⟩)))), List.forall_mem_cons.mpr ⟨Or.inr (Or.inr (Or.inr (Or.inr (Or.inr ⟨by decide, yX6_isEither, rfl, Or.inl kw_29_0⟩)))), List.forall_mem_cons.mpr ⟨Or.inr (Or.inr (Or.inr (Or.inr (Or.inr ⟨by decide, yX3_pass, rfl, Or.inl kw_36_21⟩)))), List.forall_mem_cons.mpr ⟨Or.inr (Or.inr (Or.inr (Or.inr (Or.inr ⟨by decide, yX6_isSheet, rfl, Or.inl kw_41_6⟩)))), List.forall_mem_cons.mpr ⟨Or.inr (Or.inr (Or.inr (Or.inr (Or.inr ⟨by decide, yX2_isMissing, rfl, Or.inl kw_41_9⟩)))), List.forall_mem_cons.mpr ⟨Or.inr (Or.inr (Or.inr (Or.inr (Or.inr ⟨by decide, yX3_holdFeast, rfl, Or.inl kw_30_3⟩)))), List.forall_mem_cons.mpr ⟨Or.inr (Or.inr (Or.inr (Or.inr (Or.inr ⟨by decide, yX3_friends, rfl, Or.inl kw_30_10⟩)))), List.forall_mem_cons.mpr ⟨Or.inr (Or.inr (Or.inr (Or.inr (Or.inr ⟨by decide, yX0_see, rfl, Or.inl kw_32_4⟩)))), List.forall_mem_cons.mpr ⟨Or.inr (Or.inr (Or.inr (Or.inr (Or.inr ⟨by decide, yX6_isYears, rfl, Or.inl kw_36_10⟩)))), List.forall_mem_cons.mpr ⟨Or.inr (Or.inr (Or.inr (Or.inr (Or.inr ⟨by decide, yX2_holds, rfl, Or.inl kw_47_15⟩)))), List.forall_mem_cons.mpr ⟨Or.inr (Or.inr (Or.inr (Or.inr (Or.inr ⟨by decide, yX3_init, rfl, Or.inl kw_10_5⟩)))), List.forall_mem_cons.mpr ⟨Or.inr (Or.inr (Or.inr (Or.inr (Or.inr ⟨by decide, yX6_setting, rfl, Or.inl kw_12_16⟩)))), List.forall_mem_cons.mpr ⟨Or.inr (Or.inr (Or.inr (Or.inr (Or.inr ⟨by decide, yX0_longestWay, rfl, Or.inl kw_33_20⟩)))), List.forall_mem_cons.mpr ⟨Or.inr (Or.inr (Or.inr (Or.inr (Or.inr ⟨by decide, yX2_lay, rfl, Or.inl kw_43_19⟩)))), List.forall_mem_cons.mpr ⟨Or.inr (Or.inr (Or.inr (Or.inr (Or.inr ⟨by decide, yX4_put, rfl, Or.inl kw_5_17⟩)))), List.forall_mem_cons.mpr ⟨Or.inr (Or.inr (Or.inr (Or.inr (Or.inr ⟨by decide, yX1_readInto, rfl, Or.inl kw_6_4⟩)))), List.forall_mem_cons.mpr ⟨Or.inr (Or.inr (Or.inr (Or.inr (Or.inr ⟨by decide, yX4_empty, rfl, Or.inl kw_10_1⟩)))), List.forall_mem_cons.mpr ⟨Or.inr (Or.inr (Or.inr (Or.inr (Or.inr ⟨by decide, yX6_settle, rfl, Or.inl kw_24_0⟩)))), List.forall_mem_cons.mpr ⟨Or.inr (Or.inr (Or.inr (Or.inr (Or.inr ⟨by decide, yX6_isTwo, rfl, Or.inl kw_24_23⟩)))), List.forall_mem_cons.mpr ⟨Or.inr (Or.inr (Or.inr (Or.inr (Or.inr ⟨by decide, yX6_figure, rfl, Or.inl kw_32_0⟩)))), List.forall_mem_cons.mpr ⟨Or.inr (Or.inr (Or.inr (Or.inr (Or.inr ⟨by decide, yX0_everyone, rfl, Or.inl kw_32_11⟩)))), List.forall_mem_cons.mpr ⟨Or.inr (Or.inr (Or.inr (Or.inr (Or.inr ⟨by decide, yX0_companies, rfl, Or.inl kw_32_15⟩)))), List.forall_mem_cons.mpr ⟨Or.inr (Or.inr (Or.inr (Or.inr (Or.inr ⟨by decide, yX6_isFriends, rfl, Or.inl kw_38_3⟩)))), List.forall_mem_cons.mpr ⟨Or.inr (Or.inr (Or.inr (Or.inr (Or.inr ⟨by decide, yX0_turn, rfl, Or.inl kw_40_17⟩)))), List.forall_mem_cons.mpr ⟨Or.inr (Or.inr (Or.inr (Or.inr (Or.inr ⟨by decide, yX2_unlikeItems, rfl, Or.inl kw_41_17⟩)))), List.forall_mem_cons.mpr ⟨Or.inr (Or.inr (Or.inr (Or.inr (Or.inr ⟨by decide, yX6_fits, rfl, Or.inl kw_42_2⟩)))), List.forall_mem_cons.mpr ⟨Or.inr (Or.inr (Or.inr (Or.inr (Or.inr ⟨by decide, yX2_put, rfl, Or.inl kw_43_23⟩)))), List.forall_mem_cons.mpr ⟨Or.inr (Or.inr (Or.inr (Or.inr (Or.inr ⟨by decide, yX6_friendsDrawn, rfl, Or.inl kw_44_15⟩)))), List.forall_mem_cons.mpr ⟨Or.inr (Or.inr (Or.inr (Or.inr (Or.inr ⟨by decide, yX6_isSort, rfl, Or.inl kw_47_7⟩)))), List.forall_mem_cons.mpr ⟨Or.inl ⟨rfl, kw_1_9⟩, List.forall_mem_cons.mpr ⟨Or.inr (Or.inr (Or.inr (Or.inr (Or.inr ⟨by decide, yX5_init, rfl, Or.inl kw_3_3⟩)))), List.forall_mem_cons.mpr ⟨Or.inr (Or.inr (Or.inr (Or.inr (Or.inr ⟨by decide, yJ0_length_8abf5, rfl, Or.inl kw_3_16⟩)))), List.forall_mem_cons.mpr ⟨Or.inr (Or.inr (Or.inr (Or.inr (Or.inr ⟨by decide, yJ0_charAt_5068e, rfl, Or.inl kw_4_4⟩)))), List.forall_mem_cons.mpr ⟨Or.inr (Or.inr (Or.inr (Or.inr (Or.inr ⟨by decide, yX1_init, rfl, Or.inl kw_5_22⟩)))), List.forall_mem_cons.mpr ⟨Or.inr (Or.inr (Or.inr (Or.inr (Or.inr ⟨by decide, yX3_add, rfl, Or.inl kw_24_4⟩)))), List.forall_mem_cons.mpr ⟨Or.inr (Or.inr (Or.inr (Or.inr (Or.inr ⟨by decide, yX3_tie, rfl, Or.inl kw_25_3⟩)))), List.forall_mem_cons.mpr ⟨Or.inr (Or.inr (Or.inr (Or.inr (Or.inr ⟨by decide, yX3_acquaintances, rfl, Or.inl kw_25_20⟩)))), List.forall_mem_cons.mpr ⟨Or.inr (Or.inr (Or.inr (Or.inr (Or.inr ⟨by decide, yX3_seatsAt, rfl, Or.inl kw_26_4⟩)))), List.forall_mem_cons.mpr ⟨Or.inr (Or.inr (Or.inr (Or.inr (Or.inr ⟨by decide, yX3_sounds, rfl, Or.inl kw_26_8⟩)))), List.forall_mem_cons.mpr ⟨Or.inr (Or.inr (Or.inr (Or.inr (Or.inr ⟨by decide, yX3_meets, rfl, Or.inl kw_29_3⟩)))), List.forall_mem_cons.mpr ⟨Or.inr (Or.inr (Or.inr (Or.inr (Or.inr ⟨by decide, yX3_forgets, rfl, Or.inl kw_29_7⟩)))), List.forall_mem_cons.mpr ⟨Or.inr (Or.inr (Or.inr (Or.inr (Or.inr ⟨by decide, yX3_endYear, rfl, Or.inl kw_31_6⟩)))), List.forall_mem_cons.mpr ⟨Or.inr (Or.inr (Or.inr (Or.inr (Or.inr ⟨by decide, yX0_largestCompany, rfl, Or.inl kw_33_3⟩)))), List.forall_mem_cons.mpr ⟨Or.inr (Or.inr (Or.inr (Or.inr (Or.inr ⟨by decide, yX3_allStrength, rfl, Or.inl kw_33_16⟩)))), List.forall_mem_cons.mpr ⟨Or.inr (Or.inr (Or.inr (Or.inr (Or.inr ⟨by decide, yX3_quietTable, rfl, Or.inl kw_34_4⟩)))), List.forall_mem_cons.mpr ⟨Or.inr (Or.inr (Or.inr (Or.inr (Or.inr ⟨by decide, yX0_distance, rfl, Or.inl kw_36_1⟩)))), List.forall_mem_cons.mpr ⟨Or.inr (Or.inr (Or.inr (Or.inr (Or.inr ⟨by decide, yX6_canChange, rfl, Or.inl kw_39_3⟩)))), List.forall_mem_cons.mpr ⟨Or.inr (Or.inr (Or.inr (Or.inr (Or.inr ⟨by decide, yX3_knows, rfl, Or.inl kw_40_16⟩)))), List.forall_mem_cons.mpr ⟨Or.inr (Or.inr (Or.inr (Or.inr (Or.inr ⟨by decide, yX6_otherwise, rfl, Or.inl kw_41_13⟩)))), List.forall_mem_cons.mpr ⟨Or.inr (Or.inr (Or.inr (Or.inr (Or.inr ⟨by decide, yX6_limits, rfl, Or.inl kw_41_22⟩)))), List.forall_mem_cons.mpr ⟨Or.inr (Or.inr (Or.inr (Or.inr (Or.inr ⟨by decide, yX6_leastLimit, rfl, Or.inl kw_42_7⟩)))), List.forall_mem_cons.mpr ⟨Or.inr (Or.inr (Or.inr (Or.inr (Or.inr ⟨by decide, yX6_possible, rfl, Or.inl kw_42_11⟩)))), List.forall_mem_cons.mpr ⟨Or.inr (Or.inr (Or.inr (Or.inr (Or.inr ⟨by decide, yX6_choices, rfl, Or.inl kw_42_15⟩)))), List.forall_mem_cons.mpr ⟨Or.inr (Or.inr (Or.inr (Or.inr (Or.inr ⟨by decide, yX6_suppose, rfl, Or.inl kw_42_19⟩)))), List.forall_mem_cons.mpr ⟨Or.inr (Or.inr (Or.inr (Or.inr (Or.inr ⟨by decide, yX6_commonDivisor, rfl, Or.inl kw_45_10⟩)))), List.forall_mem_cons.mpr ⟨Or.inr (Or.inr (Or.inl ⟨rfl, kw_45_13⟩)), List.forall_mem_cons.mpr ⟨Or.inr (Or.inr (Or.inr (Or.inr (Or.inr ⟨by decide, yX3_seated, rfl, Or.inl kw_46_19⟩)))), List.forall_mem_cons.mpr ⟨Or.inr (Or.inl ⟨rfl, kw_48_4⟩), List.forall_mem_cons.mpr ⟨Or.inr (Or.inr (Or.inr (Or.inr (Or.inr ⟨by decide, yX6_isUnder, rfl, Or.inl kw_48_23⟩)))), List.forall_mem_cons.mpr ⟨Or.inr (Or.inr (Or.inr (Or.inr (Or.inr ⟨by decide, yX4_init, rfl, Or.inr (by decide)⟩)))), List.forall_mem_cons.mpr ⟨Or.inr (Or.inr (Or.inr (Or.inr (Or.inr ⟨by decide, yX0_init, rfl, Or.inr (by decide)⟩)))), List.forall_mem_cons.mpr ⟨Or.inr (Or.inr (Or.inr (Or.inr (Or.inr ⟨by decide, yX2_init, rfl, Or.inr (by decide)⟩)))), fun _ h => absurd h List.not_mem_nil⟩⟩⟩⟩⟩⟩⟩⟩⟩⟩⟩⟩⟩⟩⟩⟩⟩⟩⟩⟩⟩⟩⟩⟩⟩⟩⟩⟩⟩⟩⟩⟩⟩⟩⟩⟩⟩⟩⟩⟩⟩⟩⟩⟩⟩⟩⟩⟩⟩⟩⟩⟩⟩⟩⟩⟩⟩⟩⟩⟩⟩⟩⟩
theorem xml_ok7 : ∀ e ∈ xmlL7, xML 7 e := List.forall_mem_cons.mpr ⟨Or.inr (Or.inr (Or.inr (Or.inr (Or.inr ⟨by decide, yX7_next, rfl, Or.inl kw_15_12⟩)))), List.forall_mem_cons.mpr ⟨Or.inr (Or.inr (Or.inr (Or.inr (Or.inr ⟨by decide, yX7_isSign, rfl, Or.inl kw_18_21⟩)))), List.forall_mem_cons.mpr ⟨Or.inr (Or.inr (Or.inr (Or.inr (Or.inr ⟨by decide, yX7_in, rfl, Or.inl kw_13_1⟩)))), List.forall_mem_cons.mpr ⟨Or.inr (Or.inr (Or.inr (Or.inr (Or.inr ⟨by decide, yX7_isWord, rfl, Or.inl kw_16_2⟩)))), List.forall_mem_cons.mpr ⟨Or.inr (Or.inr (Or.inr (Or.inr (Or.inr ⟨by decide, yX7_opens, rfl, Or.inl kw_17_8⟩)))), List.forall_mem_cons.mpr ⟨Or.inr (Or.inr (Or.inr (Or.inr (Or.inr ⟨by decide, yX7_fail, rfl, Or.inl kw_16_14⟩)))), List.forall_mem_cons.mpr ⟨Or.inr (Or.inr (Or.inr (Or.inr (Or.inr ⟨by decide, yX7_isHouse, rfl, Or.inl kw_13_4⟩)))), List.forall_mem_cons.mpr ⟨Or.inr (Or.inr (Or.inr (Or.inr (Or.inr ⟨by decide, yX7_strengthOf, rfl, Or.inl kw_14_0⟩)))), List.forall_mem_cons.mpr ⟨Or.inr (Or.inr (Or.inr (Or.inr (Or.inr ⟨by decide, yX7_isLetter, rfl, Or.inl kw_16_6⟩)))), List.forall_mem_cons.mpr ⟨Or.inr (Or.inr (Or.inr (Or.inr (Or.inr ⟨by decide, yX7_byteAt, rfl, Or.inl kw_15_22⟩)))), List.forall_mem_cons.mpr ⟨Or.inr (Or.inr (Or.inr (Or.inr (Or.inr ⟨by decide, yX7_isSheet, rfl, Or.inl kw_43_4⟩)))), List.forall_mem_cons.mpr ⟨Or.inr (Or.inr (Or.inr (Or.inr (Or.inr ⟨by decide, yX7_name, rfl, Or.inl kw_19_1⟩)))), List.forall_mem_cons.mpr ⟨Or.inr (Or.inr (Or.inr (Or.inr (Or.inr ⟨by decide, yX7_spell, rfl, Or.inl kw_11_21⟩)))), List.forall_mem_cons.mpr ⟨Or.inr (Or.inr (Or.inr (Or.inr (Or.inr ⟨by decide, yX7_knows, rfl, Or.inl kw_23_12⟩)))), List.forall_mem_cons.mpr ⟨Or.inr (Or.inr (Or.inr (Or.inr (Or.inr ⟨by decide, yX7_friends, rfl, Or.inl kw_30_22⟩)))), List.forall_mem_cons.mpr ⟨Or.inr (Or.inr (Or.inr (Or.inr (Or.inr ⟨by decide, yX7_waysAll, rfl, Or.inl kw_35_1⟩)))), List.forall_mem_cons.mpr ⟨Or.inr (Or.inr (Or.inr (Or.inr (Or.inr ⟨by decide, yX7_laysAside, rfl, Or.inl kw_37_10⟩)))), List.forall_mem_cons.mpr ⟨Or.inr (Or.inr (Or.inr (Or.inr (Or.inr ⟨by decide, yX7_laysBack, rfl, Or.inl kw_37_19⟩)))), List.forall_mem_cons.mpr ⟨Or.inr (Or.inr (Or.inr (Or.inr (Or.inr ⟨by decide, yX7_friendsBehind, rfl, Or.inl kw_38_19⟩)))), List.forall_mem_cons.mpr ⟨Or.inr (Or.inr (Or.inr (Or.inr (Or.inr ⟨by decide, yX7_binds, rfl, Or.inl kw_24_14⟩)))), List.forall_mem_cons.mpr ⟨Or.inr (Or.inr (Or.inr (Or.inr (Or.inr ⟨by decide, yX7_feasts, rfl, Or.inl kw_30_18⟩)))), List.forall_mem_cons.mpr ⟨Or.inr (Or.inr (Or.inr (Or.inr (Or.inr ⟨by decide, yX7_says, rfl, Or.inl kw_14_12⟩)))), List.forall_mem_cons.mpr ⟨Or.inr (Or.inr (Or.inr (Or.inr (Or.inr ⟨by decide, yX7_part, rfl, Or.inl kw_16_10⟩)))), List.forall_mem_cons.mpr ⟨Or.inr (Or.inr (Or.inr (Or.inr (Or.inr ⟨by decide, yX7_not1, rfl, Or.inl kw_17_12⟩)))), List.forall_mem_cons.mpr ⟨Or.inr (Or.inr (Or.inr (Or.inr (Or.inr ⟨by decide, yX7_not2, rfl, Or.inl kw_17_16⟩)))), List.forall_mem_cons.mpr ⟨Or.inr (Or.inr (Or.inr (Or.inr (Or.inr ⟨by decide, yX7_not3, rfl, Or.inl kw_17_20⟩)))), List.forall_mem_cons.mpr ⟨Or.inr (Or.inr (Or.inr (Or.inr (Or.inr ⟨by decide, yX7_not4, rfl, Or.inl kw_18_0⟩)))), List.forall_mem_cons.mpr ⟨Or.inr (Or.inr (Or.inr (Or.inr (Or.inr ⟨by decide, yX7_not5, rfl, Or.inl kw_18_4⟩)))), List.forall_mem_cons.mpr ⟨Or.inr (Or.inr (Or.inr (Or.inr (Or.inr ⟨by decide, yX7_atom5, rfl, Or.inl kw_18_17⟩)))), List.forall_mem_cons.mpr ⟨Or.inr (Or.inr (Or.inr (Or.inr (Or.inr ⟨by decide, yX7_atom4, rfl, Or.inl kw_19_13⟩)))), List.forall_mem_cons.mpr ⟨Or.inr (Or.inr (Or.inr (Or.inr (Or.inr ⟨by decide, yX7_atom3, rfl, Or.inl kw_20_9⟩)))), List.forall_mem_cons.mpr ⟨Or.inr (Or.inr (Or.inr (Or.inr (Or.inr ⟨by decide, yX7_atom2, rfl, Or.inl kw_21_5⟩)))), List.forall_mem_cons.mpr ⟨Or.inr (Or.inr (Or.inr (Or.inr (Or.inr ⟨by decide, yX7_atom1, rfl, Or.inl kw_22_1⟩)))), List.forall_mem_cons.mpr ⟨Or.inr (Or.inr (Or.inr (Or.inr (Or.inr ⟨by decide, yX7_lays, rfl, Or.inl kw_23_16⟩)))), List.forall_mem_cons.mpr ⟨Or.inr (Or.inr (Or.inr (Or.inr (Or.inr ⟨by decide, yX7_meetsOf, rfl, Or.inl kw_29_15⟩)))), List.forall_mem_cons.mpr ⟨Or.inr (Or.inr (Or.inr (Or.inr (Or.inr ⟨by decide, yX7_fadesOf, rfl, Or.inl kw_29_19⟩)))), List.forall_mem_cons.mpr ⟨Or.inr (Or.inr (Or.inr (Or.inr (Or.inr ⟨by decide, yX7_longest, rfl, Or.inl kw_35_17⟩)))), List.forall_mem_cons.mpr ⟨Or.inr (Or.inr (Or.inr (Or.inr (Or.inr ⟨by decide, yX7_lives, rfl, Or.inl kw_37_15⟩)))), List.forall_mem_cons.mpr ⟨Or.inr (Or.inr (Or.inr (Or.inr (Or.inr ⟨by decide, yX7_told, rfl, Or.inl kw_13_16⟩)))), List.forall_mem_cons.mpr ⟨Or.inr (Or.inr (Or.inr (Or.inr (Or.inr ⟨by decide, yX7_seatsOf, rfl, Or.inl kw_14_4⟩)))), List.forall_mem_cons.mpr ⟨Or.inr (Or.inr (Or.inr (Or.inr (Or.inr ⟨by decide, yX7_soundsOf, rfl, Or.inl kw_14_8⟩)))), List.forall_mem_cons.mpr ⟨Or.inr (Or.inr (Or.inr (Or.inr (Or.inr ⟨by decide, yX7_apart, rfl, Or.inl kw_14_23⟩)))), List.forall_mem_cons.mpr ⟨Or.inr (Or.inr (Or.inr (Or.inr (Or.inr ⟨by decide, yX7_read, rfl, Or.inl kw_15_2⟩)))), List.forall_mem_cons.mpr ⟨Or.inr (Or.inr (Or.inr (Or.inr (Or.inr ⟨by decide, yX7_both0, rfl, Or.inl kw_16_23⟩)))), List.forall_mem_cons.mpr ⟨Or.inr (Or.inr (Or.inr (Or.inr (Or.inr ⟨by decide, yX7_not0, rfl, Or.inl kw_17_3⟩)))), List.forall_mem_cons.mpr ⟨Or.inr (Or.inr (Or.inr (Or.inr (Or.inr ⟨by decide, yX7_added5, rfl, Or.inl kw_18_8⟩)))), List.forall_mem_cons.mpr ⟨Or.inr (Or.inr (Or.inr (Or.inr (Or.inr ⟨by decide, yX7_term5, rfl, Or.inl kw_18_13⟩)))), List.forall_mem_cons.mpr ⟨Or.inr (Or.inr (Or.inr (Or.inr (Or.inr ⟨by decide, yX7_added4, rfl, Or.inl kw_19_5⟩)))), List.forall_mem_cons.mpr ⟨Or.inr (Or.inr (Or.inr (Or.inr (Or.inr ⟨by decide, yX7_term4, rfl, Or.inl kw_19_9⟩)))), List.forall_mem_cons.mpr ⟨Or.inr (Or.inr (Or.inr (Or.inr (Or.inr ⟨by decide, yX7_both5, rfl, Or.inl kw_19_21⟩)))), List.forall_mem_cons.mpr ⟨Or.inr (Or.inr (Or.inr (Or.inr (Or.inr ⟨by decide, yX7_added3, rfl, Or.inl kw_20_1⟩)))), List.forall_mem_cons.mpr ⟨Or.inr (Or.inr (Or.inr (Or.inr (Or.inr ⟨by decide, yX7_term3, rfl, Or.inl kw_20_5⟩)))), List.forall_mem_cons.mpr ⟨Or.inr (Or.inr (Or.inr (Or.inr (Or.inr ⟨by decide, yX7_both4, rfl, Or.inl kw_20_17⟩)))), List.forall_mem_cons.mpr ⟨Or.inr (Or.inr (Or.inr (Or.inr (Or.inr ⟨by decide, yX7_added2, rfl, Or.inl kw_20_21⟩)))), List.forall_mem_cons.mpr ⟨Or.inr (Or.inr (Or.inr (Or.inr (Or.inr ⟨by decide, yX7_term2, rfl, Or.inl kw_21_1⟩)))), List.forall_mem_cons.mpr ⟨Or.inr (Or.inr (Or.inr (Or.inr (Or.inr ⟨by decide, yX7_both3, rfl, Or.inl kw_21_13⟩)))), List.forall_mem_cons.mpr ⟨Or.inr (Or.inr (Or.inr (Or.inr (Or.inr ⟨by decide, yX7_added1, rfl, Or.inl kw_21_17⟩)))), List.forall_mem_cons.mpr ⟨Or.inr (Or.inr (Or.inr (Or.inr (Or.inr ⟨by decide, yX7_term1, rfl, Or.inl kw_21_21⟩)))), List.forall_mem_cons.mpr ⟨Or.inr (Or.inr (Or.inr (Or.inr (Or.inr ⟨by decide, yX7_both2, rfl, Or.inl kw_22_9⟩)))), List.forall_mem_cons.mpr ⟨Or.inr (Or.inr (Or.inr (Or.inr (Or.inr ⟨by decide, yX7_added0, rfl, Or.inl kw_22_13⟩)))), List.forall_mem_cons.mpr ⟨Or.inr (Or.inr (Or.inr (Or.inr (Or.inr ⟨by decide, yX7_term0, rfl, Or.inl kw_22_17⟩)))), List.forall_mem_cons.mpr ⟨Or.inr (Or.inr (Or.inr (Or.inr (Or.inr ⟨by decide, yX7_atom0, rfl, Or.inl kw_22_21⟩)))), List.forall_mem_cons.mpr ⟨Or.inr (Or.inr (Or.inr (Or.inr (Or.inr ⟨by decide, yX7_both1, rfl, Or.inl kw_23_5⟩)))), List.forall_mem_cons.mpr ⟨Or.inr (Or.inr (Or.inr (Or.inr (Or.inr ⟨by decide, yX7_within, rfl, Or.inl kw_23_9⟩)))), List.forall_mem_cons.mpr ⟨Or.inr (Or.inr (Or.inr (Or.inr (Or.inr ⟨by decide, yX7_areTwo, rfl, Or.inl kw_25_11⟩)))), List.forall_mem_cons.mpr ⟨Or.inr (Or.inr (Or.inr (Or.inr (Or.inr ⟨by decide, yX7_fades, rfl, Or.inl kw_31_16⟩)))), List.forall_mem_cons.mpr ⟨Or.inr (Or.inr (Or.inr (Or.inr (Or.inr ⟨by decide, yX7_tellsOf, rfl, Or.inl kw_34_21⟩)))), List.forall_mem_cons.mpr ⟨Or.inr (Or.inr (Or.inr (Or.inr (Or.inr ⟨by decide, yX7_companies, rfl, Or.inl kw_35_5⟩)))), List.forall_mem_cons.mpr ⟨Or.inr (Or.inr (Or.inr (Or.inr (Or.inr ⟨by decide, yX7_clears, rfl, Or.inl kw_39_20⟩)))), List.forall_mem_cons.mpr ⟨Or.inr (Or.inr (Or.inr (Or.inr (Or.inr ⟨by decide, yX7_sitsAgain, rfl, Or.inl kw_40_0⟩)))), List.forall_mem_cons.mpr ⟨Or.inr (Or.inr (Or.inr (Or.inr (Or.inr ⟨by decide, yX7_unlike, rfl, Or.inl kw_43_7⟩)))), List.forall_mem_cons.mpr ⟨Or.inr (Or.inr (Or.inr (Or.inr (Or.inr ⟨by decide, yX7_friendsBy, rfl, Or.inl kw_45_0⟩)))), List.forall_mem_cons.mpr ⟨Or.inl ⟨rfl, kw_10_20⟩, List.forall_mem_cons.mpr ⟨Or.inr (Or.inr (Or.inr (Or.inr (Or.inr ⟨by decide, yX7_isValue, rfl, Or.inl kw_13_9⟩)))), List.forall_mem_cons.mpr ⟨Or.inr (Or.inr (Or.inr (Or.inr (Or.inr ⟨by decide, yX7_either0, rfl, Or.inl kw_16_19⟩)))), List.forall_mem_cons.mpr ⟨Or.inr (Or.inr (Or.inr (Or.inr (Or.inr ⟨by decide, yX7_either5, rfl, Or.inl kw_19_17⟩)))), List.forall_mem_cons.mpr ⟨Or.inr (Or.inr (Or.inr (Or.inr (Or.inr ⟨by decide, yX7_either4, rfl, Or.inl kw_20_13⟩)))), List.forall_mem_cons.mpr ⟨Or.inr (Or.inr (Or.inr (Or.inr (Or.inr ⟨by decide, yX7_either3, rfl, Or.inl kw_21_9⟩)))), List.forall_mem_cons.mpr ⟨Or.inr (Or.inr (Or.inr (Or.inr (Or.inr ⟨by decide, yX7_either2, rfl, Or.inl kw_22_5⟩)))), List.forall_mem_cons.mpr ⟨Or.inr (Or.inr (Or.inr (Or.inr (Or.inr ⟨by decide, yX7_either1, rfl, Or.inl kw_23_1⟩)))), List.forall_mem_cons.mpr ⟨Or.inr (Or.inr (Or.inr (Or.inr (Or.inr ⟨by decide, yX7_quietest, rfl, Or.inl kw_34_17⟩)))), List.forall_mem_cons.mpr ⟨Or.inr (Or.inr (Or.inr (Or.inr (Or.inr ⟨by decide, yX7_largest, rfl, Or.inl kw_35_9⟩)))), List.forall_mem_cons.mpr ⟨Or.inr (Or.inr (Or.inr (Or.inr (Or.inr ⟨by decide, yX7_strengthAll, rfl, Or.inl kw_35_13⟩)))), List.forall_mem_cons.mpr ⟨Or.inr (Or.inr (Or.inr (Or.inr (Or.inr ⟨by decide, yX7_limitsBy, rfl, Or.inl kw_43_11⟩)))), List.forall_mem_cons.mpr ⟨Or.inr (Or.inr (Or.inr (Or.inr (Or.inr ⟨by decide, yX7_sheet, rfl, Or.inl kw_44_7⟩)))), List.forall_mem_cons.mpr ⟨Or.inr (Or.inr (Or.inr (Or.inr (Or.inr ⟨by decide, yX7_house, rfl, Or.inl kw_48_18⟩)))), List.forall_mem_cons.mpr ⟨Or.inr (Or.inr (Or.inr (Or.inr (Or.inr ⟨by decide, yX7_over, rfl, Or.inl kw_49_7⟩)))), fun _ h => absurd h List.not_mem_nil⟩⟩⟩⟩⟩⟩⟩⟩⟩⟩⟩⟩⟩⟩⟩⟩⟩⟩⟩⟩⟩⟩⟩⟩⟩⟩⟩⟩⟩⟩⟩⟩⟩⟩⟩⟩⟩⟩⟩⟩⟩⟩⟩⟩⟩⟩⟩⟩⟩⟩⟩⟩⟩⟩⟩⟩⟩⟩⟩⟩⟩⟩⟩⟩⟩⟩⟩⟩⟩⟩⟩⟩⟩⟩⟩⟩⟩⟩⟩⟩⟩⟩⟩⟩⟩⟩⟩
theorem xml_ok10 : ∀ e ∈ xmlL10, xML 10 e := List.forall_mem_cons.mpr ⟨Or.inr (Or.inr (Or.inr (Or.inr (Or.inr ⟨by decide, yJ0_coder_7d493, rfl, Or.inl kw_3_22⟩)))), List.forall_mem_cons.mpr ⟨Or.inr (Or.inr (Or.inr (Or.inr (Or.inr ⟨by decide, yJ0_isLatin1_aae02, rfl, Or.inl kw_4_8⟩)))), List.forall_mem_cons.mpr ⟨Or.inr (Or.inr (Or.inr (Or.inr (Or.inr ⟨by decide, yJ1_charAt_3b067, rfl, Or.inl kw_4_12⟩)))), List.forall_mem_cons.mpr ⟨Or.inr (Or.inr (Or.inr (Or.inr (Or.inr ⟨by decide, yJ3_checkIndex_8e157, rfl, Or.inl kw_4_20⟩)))), List.forall_mem_cons.mpr ⟨Or.inr (Or.inr (Or.inr (Or.inr (Or.inr ⟨by decide, yJ2_charAt_3b067, rfl, Or.inl kw_5_0⟩)))), fun _ h => absurd h List.not_mem_nil⟩⟩⟩⟩⟩
theorem xml_ok11 : ∀ e ∈ xmlL11, xML 11 e := List.forall_mem_cons.mpr ⟨Or.inr (Or.inr (Or.inr (Or.inr (Or.inr ⟨by decide, yJ0_checkIndex_df160, rfl, Or.inl kw_4_16⟩)))), fun _ h => absurd h List.not_mem_nil⟩
theorem xml_ok12 : ∀ e ∈ xmlL12, xML 12 e := List.forall_mem_cons.mpr ⟨Or.inr (Or.inr (Or.inr (Or.inr (Or.inr ⟨by decide, yJ2_length_9d52b, rfl, Or.inl kw_5_7⟩)))), List.forall_mem_cons.mpr ⟨Or.inr (Or.inr (Or.inr (Or.inr (Or.inr ⟨by decide, yJ2_checkIndex_2214a, rfl, Or.inl kw_5_4⟩)))), List.forall_mem_cons.mpr ⟨Or.inr (Or.inr (Or.inr (Or.inr (Or.inr ⟨by decide, yJ0_checkIndex_df160, rfl, Or.inl kw_5_10⟩)))), List.forall_mem_cons.mpr ⟨Or.inr (Or.inr (Or.inr (Or.inr (Or.inr ⟨by decide, yJ2_getChar_3b067, rfl, Or.inl kw_5_11⟩)))), fun _ h => absurd h List.not_mem_nil⟩⟩⟩⟩
theorem xml_all : ∀ p ∈ xmlA, ∀ e ∈ p.2, xML p.1 e := List.forall_mem_cons.mpr ⟨xml_ok7, List.forall_mem_cons.mpr ⟨xml_ok6, List.forall_mem_cons.mpr ⟨xml_ok3, List.forall_mem_cons.mpr ⟨xml_ok4, List.forall_mem_cons.mpr ⟨xml_ok1, List.forall_mem_cons.mpr ⟨xml_ok5, List.forall_mem_cons.mpr ⟨xml_ok0, List.forall_mem_cons.mpr ⟨xml_ok2, List.forall_mem_cons.mpr ⟨xml_ok10, List.forall_mem_cons.mpr ⟨xml_ok11, List.forall_mem_cons.mpr ⟨xml_ok12, fun _ h => absurd h List.not_mem_nil⟩⟩⟩⟩⟩⟩⟩⟩⟩⟩⟩
theorem xml_ok {own idx k : Nat} (h : xml own idx = some k) : xML own (idx, k) := by
  obtain ⟨l, h1, h2⟩ := xas2_mem h
  exact xml_all _ h1 _ h2
set_option maxRecDepth 100000 in
theorem xws_good : wsL_law.all goodWord = true := by decide +kernel
theorem xo0 : Cond.instanceMethod objectInit ∈ wsL_law := kw_1_10
theorem xo1 : Cond.code objectInit ⟨#[0xb1]⟩ 1 none ∈ wsL_law := kw_1_11
theorem xo2 : Cond.native arraycopyName ∈ wsL_law := kw_36_18
theorem xo3 : Cond.static arraycopyName ∈ wsL_law := kw_36_19
theorem xo4 : Cond.initialized "java/lang/System" ∈ wsL_law := kw_36_20
theorem xo5 : Cond.static Lib.Math.max.name ∈ wsL_law := kw_27_6
theorem xo6 : Cond.static Lib.Math.min.name ∈ wsL_law := kw_27_3
theorem xo7 : Cond.static Lib.Math.abs.name ∈ wsL_law := kw_26_18
theorem xo8 : Cond.initialized "java/lang/Math" ∈ wsL_law := kw_26_19
theorem xo9 : Cond.arrayClass .int ∈ wsL_law := kw_2_18
theorem xo10 : Cond.arrayClass .boolean ∈ wsL_law := kw_11_15
theorem xo11 : Cond.code Lib.Math.max.name Lib.Math.max.code 2 (some .int) ∈ wsL_law := kw_27_7
theorem xo12 : Cond.code Lib.Math.min.name Lib.Math.min.code 2 (some .int) ∈ wsL_law := kw_27_4
theorem xo13 : Cond.code Lib.Math.abs.name Lib.Math.abs.code 1 (some .int) ∈ wsL_law := kw_26_20
