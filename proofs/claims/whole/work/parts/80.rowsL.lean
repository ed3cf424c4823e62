theorem lwp_1 : ∀ w ∈ wsL_law_r1, w ∈ wsL_law := fun _ h => (List.mem_append_left _ (List.mem_append_left _ (List.mem_append_left _ (List.mem_append_left _ (List.mem_append_left _ (List.mem_append_left _ (List.mem_append_left _ (List.mem_append_left _ (List.mem_append_left _ (List.mem_append_left _ h))))))))))
theorem lwp_2 : ∀ w ∈ wsL_law_r2, w ∈ wsL_law := fun _ h => (List.mem_append_left _ (List.mem_append_left _ (List.mem_append_left _ (List.mem_append_left _ (List.mem_append_left _ (List.mem_append_left _ (List.mem_append_left _ (List.mem_append_left _ (List.mem_append_left _ (List.mem_append_right _ (List.mem_append_left _ h)))))))))))
theorem lwp_3 : ∀ w ∈ wsL_law_r3, w ∈ wsL_law := fun _ h => (List.mem_append_left _ (List.mem_append_left _ (List.mem_append_left _ (List.mem_append_left _ (List.mem_append_left _ (List.mem_append_left _ (List.mem_append_left _ (List.mem_append_left _ (List.mem_append_left _ (List.mem_append_right _ (List.mem_append_right _ (List.mem_append_left _ h))))))))))))
theorem lwp_4 : ∀ w ∈ wsL_law_r4, w ∈ wsL_law := fun _ h => (List.mem_append_left _ (List.mem_append_left _ (List.mem_append_left _ (List.mem_append_left _ (List.mem_append_left _ (List.mem_append_left _ (List.mem_append_left _ (List.mem_append_left _ (List.mem_append_left _ (List.mem_append_right _ (List.mem_append_right _ (List.mem_append_right _ (List.mem_append_left _ h)))))))))))))
theorem lwp_5 : ∀ w ∈ wsL_law_r5, w ∈ wsL_law := fun _ h => (List.mem_append_left _ (List.mem_append_left _ (List.mem_append_left _ (List.mem_append_left _ (List.mem_append_left _ (List.mem_append_left _ (List.mem_append_left _ (List.mem_append_left _ (List.mem_append_left _ (List.mem_append_right _ (List.mem_append_right _ (List.mem_append_right _ (List.mem_append_right _ (List.mem_append_left _ h))))))))))))))
theorem lwp_6 : ∀ w ∈ wsL_law_r6, w ∈ wsL_law := fun _ h => (List.mem_append_left _ (List.mem_append_left _ (List.mem_append_left _ (List.mem_append_left _ (List.mem_append_left _ (List.mem_append_left _ (List.mem_append_left _ (List.mem_append_left _ (List.mem_append_left _ (List.mem_append_right _ (List.mem_append_right _ (List.mem_append_right _ (List.mem_append_right _ (List.mem_append_right _ (List.mem_append_left _ h)))))))))))))))
theorem lwp_7 : ∀ w ∈ wsL_law_r7, w ∈ wsL_law := fun _ h => (List.mem_append_left _ (List.mem_append_left _ (List.mem_append_left _ (List.mem_append_left _ (List.mem_append_left _ (List.mem_append_left _ (List.mem_append_left _ (List.mem_append_left _ (List.mem_append_left _ (List.mem_append_right _ (List.mem_append_right _ (List.mem_append_right _ (List.mem_append_right _ (List.mem_append_right _ (List.mem_append_right _ (List.mem_append_left _ h))))))))))))))))
theorem lwp_8 : ∀ w ∈ wsL_law_r8, w ∈ wsL_law := fun _ h => (List.mem_append_left _ (List.mem_append_left _ (List.mem_append_left _ (List.mem_append_left _ (List.mem_append_left _ (List.mem_append_left _ (List.mem_append_left _ (List.mem_append_left _ (List.mem_append_left _ (List.mem_append_right _ (List.mem_append_right _ (List.mem_append_right _ (List.mem_append_right _ (List.mem_append_right _ (List.mem_append_right _ (List.mem_append_right _ (List.mem_append_left _ h)))))))))))))))))
theorem lwp_9 : ∀ w ∈ wsL_law_r9, w ∈ wsL_law := fun _ h => (List.mem_append_left _ (List.mem_append_left _ (List.mem_append_left _ (List.mem_append_left _ (List.mem_append_left _ (List.mem_append_left _ (List.mem_append_left _ (List.mem_append_left _ (List.mem_append_left _ (List.mem_append_right _ (List.mem_append_right _ (List.mem_append_right _ (List.mem_append_right _ (List.mem_append_right _ (List.mem_append_right _ (List.mem_append_right _ (List.mem_append_right _ (List.mem_append_left _ h))))))))))))))))))
theorem lwp_10 : ∀ w ∈ wsL_law_r10, w ∈ wsL_law := fun _ h => (List.mem_append_left _ (List.mem_append_left _ (List.mem_append_left _ (List.mem_append_left _ (List.mem_append_left _ (List.mem_append_left _ (List.mem_append_left _ (List.mem_append_left _ (List.mem_append_left _ (List.mem_append_right _ (List.mem_append_right _ (List.mem_append_right _ (List.mem_append_right _ (List.mem_append_right _ (List.mem_append_right _ (List.mem_append_right _ (List.mem_append_right _ (List.mem_append_right _ (List.mem_append_left _ h)))))))))))))))))))
theorem lwp_11 : ∀ w ∈ wsL_law_r11, w ∈ wsL_law := fun _ h => (List.mem_append_left _ (List.mem_append_left _ (List.mem_append_left _ (List.mem_append_left _ (List.mem_append_left _ (List.mem_append_left _ (List.mem_append_left _ (List.mem_append_left _ (List.mem_append_left _ (List.mem_append_right _ (List.mem_append_right _ (List.mem_append_right _ (List.mem_append_right _ (List.mem_append_right _ (List.mem_append_right _ (List.mem_append_right _ (List.mem_append_right _ (List.mem_append_right _ (List.mem_append_right _ (List.mem_append_left _ h))))))))))))))))))))
theorem lwp_12 : ∀ w ∈ wsL_law_r12, w ∈ wsL_law := fun _ h => (List.mem_append_left _ (List.mem_append_left _ (List.mem_append_left _ (List.mem_append_left _ (List.mem_append_left _ (List.mem_append_left _ (List.mem_append_left _ (List.mem_append_left _ (List.mem_append_left _ (List.mem_append_right _ (List.mem_append_right _ (List.mem_append_right _ (List.mem_append_right _ (List.mem_append_right _ (List.mem_append_right _ (List.mem_append_right _ (List.mem_append_right _ (List.mem_append_right _ (List.mem_append_right _ (List.mem_append_right _ (List.mem_append_left _ h)))))))))))))))))))))
theorem lwp_13 : ∀ w ∈ wsL_law_r13, w ∈ wsL_law := fun _ h => (List.mem_append_left _ (List.mem_append_left _ (List.mem_append_left _ (List.mem_append_left _ (List.mem_append_left _ (List.mem_append_left _ (List.mem_append_left _ (List.mem_append_left _ (List.mem_append_left _ (List.mem_append_right _ (List.mem_append_right _ (List.mem_append_right _ (List.mem_append_right _ (List.mem_append_right _ (List.mem_append_right _ (List.mem_append_right _ (List.mem_append_right _ (List.mem_append_right _ (List.mem_append_right _ (List.mem_append_right _ (List.mem_append_right _ (List.mem_append_left _ h))))))))))))))))))))))
theorem lwp_14 : ∀ w ∈ wsL_law_r14, w ∈ wsL_law := fun _ h => (List.mem_append_left _ (List.mem_append_left _ (List.mem_append_left _ (List.mem_append_left _ (List.mem_append_left _ (List.mem_append_left _ (List.mem_append_left _ (List.mem_append_left _ (List.mem_append_left _ (List.mem_append_right _ (List.mem_append_right _ (List.mem_append_right _ (List.mem_append_right _ (List.mem_append_right _ (List.mem_append_right _ (List.mem_append_right _ (List.mem_append_right _ (List.mem_append_right _ (List.mem_append_right _ (List.mem_append_right _ (List.mem_append_right _ (List.mem_append_right _ (List.mem_append_left _ h)))))))))))))))))))))))
theorem lwp_15 : ∀ w ∈ wsL_law_r15, w ∈ wsL_law := fun _ h => (List.mem_append_left _ (List.mem_append_left _ (List.mem_append_left _ (List.mem_append_left _ (List.mem_append_left _ (List.mem_append_left _ (List.mem_append_left _ (List.mem_append_left _ (List.mem_append_left _ (List.mem_append_right _ (List.mem_append_right _ (List.mem_append_right _ (List.mem_append_right _ (List.mem_append_right _ (List.mem_append_right _ (List.mem_append_right _ (List.mem_append_right _ (List.mem_append_right _ (List.mem_append_right _ (List.mem_append_right _ (List.mem_append_right _ (List.mem_append_right _ (List.mem_append_right _ (List.mem_append_left _ h))))))))))))))))))))))))
theorem lwp_16 : ∀ w ∈ wsL_law_r16, w ∈ wsL_law := fun _ h => (List.mem_append_left _ (List.mem_append_left _ (List.mem_append_left _ (List.mem_append_left _ (List.mem_append_left _ (List.mem_append_left _ (List.mem_append_left _ (List.mem_append_left _ (List.mem_append_left _ (List.mem_append_right _ (List.mem_append_right _ (List.mem_append_right _ (List.mem_append_right _ (List.mem_append_right _ (List.mem_append_right _ (List.mem_append_right _ (List.mem_append_right _ (List.mem_append_right _ (List.mem_append_right _ (List.mem_append_right _ (List.mem_append_right _ (List.mem_append_right _ (List.mem_append_right _ (List.mem_append_right _ (List.mem_append_left _ h)))))))))))))))))))))))))
theorem lwp_17 : ∀ w ∈ wsL_law_r17, w ∈ wsL_law := fun _ h => (List.mem_append_left _ (List.mem_append_left _ (List.mem_append_left _ (List.mem_append_left _ (List.mem_append_left _ (List.mem_append_left _ (List.mem_append_left _ (List.mem_append_left _ (List.mem_append_left _ (List.mem_append_right _ (List.mem_append_right _ (List.mem_append_right _ (List.mem_append_right _ (List.mem_append_right _ (List.mem_append_right _ (List.mem_append_right _ (List.mem_append_right _ (List.mem_append_right _ (List.mem_append_right _ (List.mem_append_right _ (List.mem_append_right _ (List.mem_append_right _ (List.mem_append_right _ (List.mem_append_right _ (List.mem_append_right _ (List.mem_append_left _ h))))))))))))))))))))))))))
theorem lwp_18 : ∀ w ∈ wsL_law_r18, w ∈ wsL_law := fun _ h => (List.mem_append_left _ (List.mem_append_left _ (List.mem_append_left _ (List.mem_append_left _ (List.mem_append_left _ (List.mem_append_left _ (List.mem_append_left _ (List.mem_append_left _ (List.mem_append_left _ (List.mem_append_right _ (List.mem_append_right _ (List.mem_append_right _ (List.mem_append_right _ (List.mem_append_right _ (List.mem_append_right _ (List.mem_append_right _ (List.mem_append_right _ (List.mem_append_right _ (List.mem_append_right _ (List.mem_append_right _ (List.mem_append_right _ (List.mem_append_right _ (List.mem_append_right _ (List.mem_append_right _ (List.mem_append_right _ (List.mem_append_right _ (List.mem_append_left _ h)))))))))))))))))))))))))))
theorem lwp_19 : ∀ w ∈ wsL_law_r19, w ∈ wsL_law := fun _ h => (List.mem_append_left _ (List.mem_append_left _ (List.mem_append_left _ (List.mem_append_left _ (List.mem_append_left _ (List.mem_append_left _ (List.mem_append_left _ (List.mem_append_left _ (List.mem_append_left _ (List.mem_append_right _ (List.mem_append_right _ (List.mem_append_right _ (List.mem_append_right _ (List.mem_append_right _ (List.mem_append_right _ (List.mem_append_right _ (List.mem_append_right _ (List.mem_append_right _ (List.mem_append_right _ (List.mem_append_right _ (List.mem_append_right _ (List.mem_append_right _ (List.mem_append_right _ (List.mem_append_right _ (List.mem_append_right _ (List.mem_append_right _ (List.mem_append_right _ (List.mem_append_left _ h))))))))))))))))))))))))))))
theorem lwp_20 : ∀ w ∈ wsL_law_r20, w ∈ wsL_law := fun _ h => (List.mem_append_left _ (List.mem_append_left _ (List.mem_append_left _ (List.mem_append_left _ (List.mem_append_left _ (List.mem_append_left _ (List.mem_append_left _ (List.mem_append_left _ (List.mem_append_left _ (List.mem_append_right _ (List.mem_append_right _ (List.mem_append_right _ (List.mem_append_right _ (List.mem_append_right _ (List.mem_append_right _ (List.mem_append_right _ (List.mem_append_right _ (List.mem_append_right _ (List.mem_append_right _ (List.mem_append_right _ (List.mem_append_right _ (List.mem_append_right _ (List.mem_append_right _ (List.mem_append_right _ (List.mem_append_right _ (List.mem_append_right _ (List.mem_append_right _ (List.mem_append_right _ (List.mem_append_left _ h)))))))))))))))))))))))))))))
theorem lwp_21 : ∀ w ∈ wsL_law_r21, w ∈ wsL_law := fun _ h => (List.mem_append_left _ (List.mem_append_left _ (List.mem_append_left _ (List.mem_append_left _ (List.mem_append_left _ (List.mem_append_left _ (List.mem_append_left _ (List.mem_append_left _ (List.mem_append_left _ (List.mem_append_right _ (List.mem_append_right _ (List.mem_append_right _ (List.mem_append_right _ (List.mem_append_right _ (List.mem_append_right _ (List.mem_append_right _ (List.mem_append_right _ (List.mem_append_right _ (List.mem_append_right _ (List.mem_append_right _ (List.mem_append_right _ (List.mem_append_right _ (List.mem_append_right _ (List.mem_append_right _ (List.mem_append_right _ (List.mem_append_right _ (List.mem_append_right _ (List.mem_append_right _ (List.mem_append_right _ (List.mem_append_left _ h))))))))))))))))))))))))))))))
theorem lwp_22 : ∀ w ∈ wsL_law_r22, w ∈ wsL_law := fun _ h => (List.mem_append_left _ (List.mem_append_left _ (List.mem_append_left _ (List.mem_append_left _ (List.mem_append_left _ (List.mem_append_left _ (List.mem_append_left _ (List.mem_append_left _ (List.mem_append_left _ (List.mem_append_right _ (List.mem_append_right _ (List.mem_append_right _ (List.mem_append_right _ (List.mem_append_right _ (List.mem_append_right _ (List.mem_append_right _ (List.mem_append_right _ (List.mem_append_right _ (List.mem_append_right _ (List.mem_append_right _ (List.mem_append_right _ (List.mem_append_right _ (List.mem_append_right _ (List.mem_append_right _ (List.mem_append_right _ (List.mem_append_right _ (List.mem_append_right _ (List.mem_append_right _ (List.mem_append_right _ (List.mem_append_right _ (List.mem_append_left _ h)))))))))))))))))))))))))))))))
theorem lwp_23 : ∀ w ∈ wsL_law_r23, w ∈ wsL_law := fun _ h => (List.mem_append_left _ (List.mem_append_left _ (List.mem_append_left _ (List.mem_append_left _ (List.mem_append_left _ (List.mem_append_left _ (List.mem_append_left _ (List.mem_append_left _ (List.mem_append_left _ (List.mem_append_right _ (List.mem_append_right _ (List.mem_append_right _ (List.mem_append_right _ (List.mem_append_right _ (List.mem_append_right _ (List.mem_append_right _ (List.mem_append_right _ (List.mem_append_right _ (List.mem_append_right _ (List.mem_append_right _ (List.mem_append_right _ (List.mem_append_right _ (List.mem_append_right _ (List.mem_append_right _ (List.mem_append_right _ (List.mem_append_right _ (List.mem_append_right _ (List.mem_append_right _ (List.mem_append_right _ (List.mem_append_right _ (List.mem_append_right _ (List.mem_append_left _ h))))))))))))))))))))))))))))))))
theorem lwp_24 : ∀ w ∈ wsL_law_r24, w ∈ wsL_law := fun _ h => (List.mem_append_left _ (List.mem_append_left _ (List.mem_append_left _ (List.mem_append_left _ (List.mem_append_left _ (List.mem_append_left _ (List.mem_append_left _ (List.mem_append_left _ (List.mem_append_left _ (List.mem_append_right _ (List.mem_append_right _ (List.mem_append_right _ (List.mem_append_right _ (List.mem_append_right _ (List.mem_append_right _ (List.mem_append_right _ (List.mem_append_right _ (List.mem_append_right _ (List.mem_append_right _ (List.mem_append_right _ (List.mem_append_right _ (List.mem_append_right _ (List.mem_append_right _ (List.mem_append_right _ (List.mem_append_right _ (List.mem_append_right _ (List.mem_append_right _ (List.mem_append_right _ (List.mem_append_right _ (List.mem_append_right _ (List.mem_append_right _ (List.mem_append_right _ (List.mem_append_left _ h)))))))))))))))))))))))))))))))))
theorem lwp_25 : ∀ w ∈ wsL_law_r25, w ∈ wsL_law := fun _ h => (List.mem_append_left _ (List.mem_append_left _ (List.mem_append_left _ (List.mem_append_left _ (List.mem_append_left _ (List.mem_append_left _ (List.mem_append_left _ (List.mem_append_left _ (List.mem_append_left _ (List.mem_append_right _ (List.mem_append_right _ (List.mem_append_right _ (List.mem_append_right _ (List.mem_append_right _ (List.mem_append_right _ (List.mem_append_right _ (List.mem_append_right _ (List.mem_append_right _ (List.mem_append_right _ (List.mem_append_right _ (List.mem_append_right _ (List.mem_append_right _ (List.mem_append_right _ (List.mem_append_right _ (List.mem_append_right _ (List.mem_append_right _ (List.mem_append_right _ (List.mem_append_right _ (List.mem_append_right _ (List.mem_append_right _ (List.mem_append_right _ (List.mem_append_right _ (List.mem_append_right _ (List.mem_append_left _ h))))))))))))))))))))))))))))))))))
theorem lwp_26 : ∀ w ∈ wsL_law_r26, w ∈ wsL_law := fun _ h => (List.mem_append_left _ (List.mem_append_left _ (List.mem_append_left _ (List.mem_append_left _ (List.mem_append_left _ (List.mem_append_left _ (List.mem_append_left _ (List.mem_append_left _ (List.mem_append_left _ (List.mem_append_right _ (List.mem_append_right _ (List.mem_append_right _ (List.mem_append_right _ (List.mem_append_right _ (List.mem_append_right _ (List.mem_append_right _ (List.mem_append_right _ (List.mem_append_right _ (List.mem_append_right _ (List.mem_append_right _ (List.mem_append_right _ (List.mem_append_right _ (List.mem_append_right _ (List.mem_append_right _ (List.mem_append_right _ (List.mem_append_right _ (List.mem_append_right _ (List.mem_append_right _ (List.mem_append_right _ (List.mem_append_right _ (List.mem_append_right _ (List.mem_append_right _ (List.mem_append_right _ (List.mem_append_right _ (List.mem_append_left _ h)))))))))))))))))))))))))))))))))))
theorem lwp_27 : ∀ w ∈ wsL_law_r27, w ∈ wsL_law := fun _ h => (List.mem_append_left _ (List.mem_append_left _ (List.mem_append_left _ (List.mem_append_left _ (List.mem_append_left _ (List.mem_append_left _ (List.mem_append_left _ (List.mem_append_left _ (List.mem_append_left _ (List.mem_append_right _ (List.mem_append_right _ (List.mem_append_right _ (List.mem_append_right _ (List.mem_append_right _ (List.mem_append_right _ (List.mem_append_right _ (List.mem_append_right _ (List.mem_append_right _ (List.mem_append_right _ (List.mem_append_right _ (List.mem_append_right _ (List.mem_append_right _ (List.mem_append_right _ (List.mem_append_right _ (List.mem_append_right _ (List.mem_append_right _ (List.mem_append_right _ (List.mem_append_right _ (List.mem_append_right _ (List.mem_append_right _ (List.mem_append_right _ (List.mem_append_right _ (List.mem_append_right _ (List.mem_append_right _ (List.mem_append_right _ (List.mem_append_left _ h))))))))))))))))))))))))))))))))))))
theorem lwp_28 : ∀ w ∈ wsL_law_r28, w ∈ wsL_law := fun _ h => (List.mem_append_left _ (List.mem_append_left _ (List.mem_append_left _ (List.mem_append_left _ (List.mem_append_left _ (List.mem_append_left _ (List.mem_append_left _ (List.mem_append_left _ (List.mem_append_left _ (List.mem_append_right _ (List.mem_append_right _ (List.mem_append_right _ (List.mem_append_right _ (List.mem_append_right _ (List.mem_append_right _ (List.mem_append_right _ (List.mem_append_right _ (List.mem_append_right _ (List.mem_append_right _ (List.mem_append_right _ (List.mem_append_right _ (List.mem_append_right _ (List.mem_append_right _ (List.mem_append_right _ (List.mem_append_right _ (List.mem_append_right _ (List.mem_append_right _ (List.mem_append_right _ (List.mem_append_right _ (List.mem_append_right _ (List.mem_append_right _ (List.mem_append_right _ (List.mem_append_right _ (List.mem_append_right _ (List.mem_append_right _ (List.mem_append_right _ (List.mem_append_left _ h)))))))))))))))))))))))))))))))))))))
theorem lwp_29 : ∀ w ∈ wsL_law_r29, w ∈ wsL_law := fun _ h => (List.mem_append_left _ (List.mem_append_left _ (List.mem_append_left _ (List.mem_append_left _ (List.mem_append_left _ (List.mem_append_left _ (List.mem_append_left _ (List.mem_append_left _ (List.mem_append_left _ (List.mem_append_right _ (List.mem_append_right _ (List.mem_append_right _ (List.mem_append_right _ (List.mem_append_right _ (List.mem_append_right _ (List.mem_append_right _ (List.mem_append_right _ (List.mem_append_right _ (List.mem_append_right _ (List.mem_append_right _ (List.mem_append_right _ (List.mem_append_right _ (List.mem_append_right _ (List.mem_append_right _ (List.mem_append_right _ (List.mem_append_right _ (List.mem_append_right _ (List.mem_append_right _ (List.mem_append_right _ (List.mem_append_right _ (List.mem_append_right _ (List.mem_append_right _ (List.mem_append_right _ (List.mem_append_right _ (List.mem_append_right _ (List.mem_append_right _ (List.mem_append_right _ h)))))))))))))))))))))))))))))))))))))
theorem lwm_0 : Cond.code yX6_init cX6_init 1 none ∈ wsL_law := lwp_1 _ (List.mem_of_getElem? (i := 9) rfl)
theorem lwm_1 : Cond.fieldLink RX6 45 "BlindLanterns" "pass" "LBlindLanterns$Pass;" ∈ wsL_law := lwp_2 _ (List.mem_of_getElem? (i := 9) rfl)
theorem lwm_2 : Cond.initialized RX1 ∈ wsL_law := lwp_2 _ (List.mem_of_getElem? (i := 8) rfl)
theorem lwm_3 : Cond.instantiable RX1 5 ∈ wsL_law := lwp_2 _ (List.mem_of_getElem? (i := 7) rfl)
theorem lwm_4 : Cond.classLink RX6 42 RX1 ∈ wsL_law := lwp_2 _ (List.mem_of_getElem? (i := 6) rfl)
theorem lwm_5 : Cond.fieldLink RX6 39 "BlindLanterns" "kept" "LBlindLanterns$Shelf;" ∈ wsL_law := lwp_2 _ (List.mem_of_getElem? (i := 5) rfl)
theorem lwm_6 : Cond.fieldLink RX6 35 "BlindLanterns" "undone" "LBlindLanterns$Shelf;" ∈ wsL_law := lwp_2 _ (List.mem_of_getElem? (i := 4) rfl)
theorem lwm_7 : Cond.initialized RX4 ∈ wsL_law := lwp_2 _ (List.mem_of_getElem? (i := 3) rfl)
theorem lwm_8 : Cond.instantiable RX4 2 ∈ wsL_law := lwp_2 _ (List.mem_of_getElem? (i := 2) rfl)
theorem lwm_9 : Cond.classLink RX6 32 RX4 ∈ wsL_law := lwp_2 _ (List.mem_of_getElem? (i := 1) rfl)
theorem lwm_10 : Cond.fieldLink RX6 28 "BlindLanterns" "felt" "LBlindLanterns$Felt;" ∈ wsL_law := lwp_2 _ (List.mem_of_getElem? (i := 0) rfl)
theorem lwm_11 : Cond.initialized RX0 ∈ wsL_law := lwp_1 _ (List.mem_of_getElem? (i := 23) rfl)
theorem lwm_12 : Cond.instantiable RX0 4 ∈ wsL_law := lwp_1 _ (List.mem_of_getElem? (i := 22) rfl)
theorem lwm_13 : Cond.classLink RX6 25 RX0 ∈ wsL_law := lwp_1 _ (List.mem_of_getElem? (i := 21) rfl)
theorem lwm_14 : Cond.fieldLink RX6 21 "BlindLanterns" "reader" "LBlindLanterns$Reader;" ∈ wsL_law := lwp_1 _ (List.mem_of_getElem? (i := 20) rfl)
theorem lwm_15 : Cond.initialized RX2 ∈ wsL_law := lwp_1 _ (List.mem_of_getElem? (i := 19) rfl)
theorem lwm_16 : Cond.instantiable RX2 2 ∈ wsL_law := lwp_1 _ (List.mem_of_getElem? (i := 18) rfl)
theorem lwm_17 : Cond.classLink RX6 18 RX2 ∈ wsL_law := lwp_1 _ (List.mem_of_getElem? (i := 17) rfl)
theorem lwm_18 : Cond.fieldLink RX6 14 "BlindLanterns" "text" "LBlindLanterns$Row;" ∈ wsL_law := lwp_1 _ (List.mem_of_getElem? (i := 16) rfl)
theorem lwm_19 : Cond.initialized RX3 ∈ wsL_law := lwp_1 _ (List.mem_of_getElem? (i := 15) rfl)
theorem lwm_20 : Cond.instantiable RX3 1 ∈ wsL_law := lwp_1 _ (List.mem_of_getElem? (i := 14) rfl)
theorem lwm_21 : Cond.classLink RX6 7 RX3 ∈ wsL_law := lwp_1 _ (List.mem_of_getElem? (i := 13) rfl)
theorem lwm_22 : Cond.code objectInit ⟨#[0xb1]⟩ 1 none ∈ wsL_law := lwp_1 _ (List.mem_of_getElem? (i := 12) rfl)
theorem lwm_23 : Cond.instanceMethod objectInit ∈ wsL_law := lwp_1 _ (List.mem_of_getElem? (i := 11) rfl)
theorem lwm_24 : Cond.methodLink RX6 1 objectInit ∈ wsL_law := lwp_1 _ (List.mem_of_getElem? (i := 10) rfl)
theorem lwm_25 : Cond.classLink RX0 9 RX3 ∈ wsL_law := lwp_3 _ (List.mem_of_getElem? (i := 9) rfl)
theorem lwm_26 : Cond.methodLink RX0 3 objectInit ∈ wsL_law := lwp_3 _ (List.mem_of_getElem? (i := 8) rfl)
theorem lwm_27 : Cond.code yX0_init cX0_init 1 none ∈ wsL_law := lwp_3 _ (List.mem_of_getElem? (i := 7) rfl)
theorem lwm_28 : Cond.instanceMethod yX0_init ∈ wsL_law := lwp_3 _ (List.mem_of_getElem? (i := 6) rfl)
theorem lwm_29 : Cond.methodLink RX2 13 yX3_init ∈ wsL_law := lwp_3 _ (List.mem_of_getElem? (i := 5) rfl)
theorem lwm_30 : Cond.fieldLink RX2 16 "BlindLanterns$Reader" "numbers" "LBlindLanterns$Row;" ∈ wsL_law := lwp_3 _ (List.mem_of_getElem? (i := 4) rfl)
theorem lwm_31 : Cond.classLink RX2 9 RX3 ∈ wsL_law := lwp_3 _ (List.mem_of_getElem? (i := 3) rfl)
theorem lwm_32 : Cond.methodLink RX2 3 objectInit ∈ wsL_law := lwp_3 _ (List.mem_of_getElem? (i := 2) rfl)
theorem lwm_33 : Cond.code yX2_init cX2_init 1 none ∈ wsL_law := lwp_3 _ (List.mem_of_getElem? (i := 1) rfl)
theorem lwm_34 : Cond.instanceMethod yX2_init ∈ wsL_law := lwp_3 _ (List.mem_of_getElem? (i := 0) rfl)
theorem lwm_35 : Cond.fieldLink RX3 7 "BlindLanterns$Row" "cells" "[I" ∈ wsL_law := lwp_2 _ (List.mem_of_getElem? (i := 23) rfl)
theorem lwm_36 : Cond.arrayClass .int ∈ wsL_law := lwp_2 _ (List.mem_of_getElem? (i := 22) rfl)
theorem lwm_37 : Cond.methodLink RX3 1 objectInit ∈ wsL_law := lwp_2 _ (List.mem_of_getElem? (i := 21) rfl)
theorem lwm_38 : Cond.code yX3_init cX3_init 2 none ∈ wsL_law := lwp_2 _ (List.mem_of_getElem? (i := 20) rfl)
theorem lwm_39 : Cond.instanceMethod yX3_init ∈ wsL_law := lwp_2 _ (List.mem_of_getElem? (i := 19) rfl)
theorem lwm_40 : Cond.methodLink RX6 11 yX3_init ∈ wsL_law := lwp_2 _ (List.mem_of_getElem? (i := 18) rfl)
theorem lwm_41 : Cond.fieldLink RX6 65 "BlindLanterns" "draft" "LBlindLanterns$Told;" ∈ wsL_law := lwp_2 _ (List.mem_of_getElem? (i := 17) rfl)
theorem lwm_42 : Cond.fieldLink RX6 61 "BlindLanterns" "told" "LBlindLanterns$Told;" ∈ wsL_law := lwp_2 _ (List.mem_of_getElem? (i := 16) rfl)
theorem lwm_43 : Cond.initialized RX5 ∈ wsL_law := lwp_2 _ (List.mem_of_getElem? (i := 15) rfl)
theorem lwm_44 : Cond.instantiable RX5 11 ∈ wsL_law := lwp_2 _ (List.mem_of_getElem? (i := 14) rfl)
theorem lwm_45 : Cond.classLink RX6 58 RX5 ∈ wsL_law := lwp_2 _ (List.mem_of_getElem? (i := 13) rfl)
theorem lwm_46 : Cond.fieldLink RX6 55 "BlindLanterns" "litFor" "LBlindLanterns$Row;" ∈ wsL_law := lwp_2 _ (List.mem_of_getElem? (i := 12) rfl)
theorem lwm_47 : Cond.fieldLink RX6 52 "BlindLanterns" "draughtIn" "LBlindLanterns$Row;" ∈ wsL_law := lwp_2 _ (List.mem_of_getElem? (i := 11) rfl)
theorem lwm_48 : Cond.fieldLink RX6 49 "BlindLanterns" "nightPass" "LBlindLanterns$Pass;" ∈ wsL_law := lwp_2 _ (List.mem_of_getElem? (i := 10) rfl)
theorem lwm_49 : Cond.fieldLink RX5 23 "BlindLanterns$Told" "draughtBells" "LBlindLanterns$Row;" ∈ wsL_law := lwp_4 _ (List.mem_of_getElem? (i := 9) rfl)
theorem lwm_50 : Cond.fieldLink RX5 20 "BlindLanterns$Told" "oilAtFirst" "LBlindLanterns$Row;" ∈ wsL_law := lwp_4 _ (List.mem_of_getElem? (i := 8) rfl)
theorem lwm_51 : Cond.fieldLink RX5 14 "BlindLanterns$Told" "kinds" "LBlindLanterns$Row;" ∈ wsL_law := lwp_4 _ (List.mem_of_getElem? (i := 7) rfl)
theorem lwm_52 : Cond.classLink RX5 9 RX3 ∈ wsL_law := lwp_4 _ (List.mem_of_getElem? (i := 6) rfl)
theorem lwm_53 : Cond.methodLink RX5 3 objectInit ∈ wsL_law := lwp_4 _ (List.mem_of_getElem? (i := 5) rfl)
theorem lwm_54 : Cond.code yX5_init cX5_init 1 none ∈ wsL_law := lwp_4 _ (List.mem_of_getElem? (i := 4) rfl)
theorem lwm_55 : Cond.instanceMethod yX5_init ∈ wsL_law := lwp_4 _ (List.mem_of_getElem? (i := 3) rfl)
theorem lwm_56 : Cond.methodLink RX1 11 yX3_init ∈ wsL_law := lwp_4 _ (List.mem_of_getElem? (i := 2) rfl)
theorem lwm_57 : Cond.fieldLink RX1 20 "BlindLanterns$Pass" "oilOf" "LBlindLanterns$Row;" ∈ wsL_law := lwp_4 _ (List.mem_of_getElem? (i := 1) rfl)
theorem lwm_58 : Cond.fieldLink RX1 14 "BlindLanterns$Pass" "postOf" "LBlindLanterns$Row;" ∈ wsL_law := lwp_4 _ (List.mem_of_getElem? (i := 0) rfl)
theorem lwm_59 : Cond.classLink RX1 9 RX3 ∈ wsL_law := lwp_3 _ (List.mem_of_getElem? (i := 23) rfl)
theorem lwm_60 : Cond.methodLink RX1 3 objectInit ∈ wsL_law := lwp_3 _ (List.mem_of_getElem? (i := 22) rfl)
theorem lwm_61 : Cond.code yX1_init cX1_init 1 none ∈ wsL_law := lwp_3 _ (List.mem_of_getElem? (i := 21) rfl)
theorem lwm_62 : Cond.instanceMethod yX1_init ∈ wsL_law := lwp_3 _ (List.mem_of_getElem? (i := 20) rfl)
theorem lwm_63 : Cond.fieldLink RX4 9 "BlindLanterns$Shelf" "places" "[LBlindLanterns$Pass;" ∈ wsL_law := lwp_3 _ (List.mem_of_getElem? (i := 19) rfl)
theorem lwm_64 : Cond.classLink RX4 7 RX1 ∈ wsL_law := lwp_3 _ (List.mem_of_getElem? (i := 18) rfl)
theorem lwm_65 : Cond.methodLink RX4 1 objectInit ∈ wsL_law := lwp_3 _ (List.mem_of_getElem? (i := 17) rfl)
theorem lwm_66 : Cond.code yX4_init cX4_init 3 none ∈ wsL_law := lwp_3 _ (List.mem_of_getElem? (i := 16) rfl)
theorem lwm_67 : Cond.instanceMethod yX4_init ∈ wsL_law := lwp_3 _ (List.mem_of_getElem? (i := 15) rfl)
theorem lwm_68 : Cond.methodLink RX6 34 yX4_init ∈ wsL_law := lwp_3 _ (List.mem_of_getElem? (i := 14) rfl)
theorem lwm_69 : Cond.methodLink RX0 11 yX3_init ∈ wsL_law := lwp_3 _ (List.mem_of_getElem? (i := 13) rfl)
theorem lwm_70 : Cond.fieldLink RX0 23 "BlindLanterns$Felt" "warmths" "LBlindLanterns$Row;" ∈ wsL_law := lwp_3 _ (List.mem_of_getElem? (i := 12) rfl)
theorem lwm_71 : Cond.fieldLink RX0 20 "BlindLanterns$Felt" "bells" "LBlindLanterns$Row;" ∈ wsL_law := lwp_3 _ (List.mem_of_getElem? (i := 11) rfl)
theorem lwm_72 : Cond.fieldLink RX0 14 "BlindLanterns$Felt" "posts" "LBlindLanterns$Row;" ∈ wsL_law := lwp_3 _ (List.mem_of_getElem? (i := 10) rfl)
theorem lwm_73 : Cond.selects RX1 yX1_begin yX1_begin ∈ wsL_law := lwp_5 _ (List.mem_of_getElem? (i := 9) rfl)
theorem lwm_74 : Cond.instanceMethod yX1_begin ∈ wsL_law := lwp_5 _ (List.mem_of_getElem? (i := 8) rfl)
theorem lwm_75 : Cond.methodLink RX6 76 yX1_begin ∈ wsL_law := lwp_5 _ (List.mem_of_getElem? (i := 7) rfl)
theorem lwm_76 : Cond.fieldLink RX5 49 "BlindLanterns$Told" "cheeses" "I" ∈ wsL_law := lwp_5 _ (List.mem_of_getElem? (i := 6) rfl)
theorem lwm_77 : Cond.fieldLink RX5 46 "BlindLanterns$Told" "lit" "I" ∈ wsL_law := lwp_5 _ (List.mem_of_getElem? (i := 5) rfl)
theorem lwm_78 : Cond.code yX5_tellOil cX5_tellOil 5 (some .boolean) ∈ wsL_law := lwp_5 _ (List.mem_of_getElem? (i := 4) rfl)
theorem lwm_79 : Cond.selects RX5 yX5_tellOil yX5_tellOil ∈ wsL_law := lwp_5 _ (List.mem_of_getElem? (i := 3) rfl)
theorem lwm_80 : Cond.instanceMethod yX5_tellOil ∈ wsL_law := lwp_5 _ (List.mem_of_getElem? (i := 2) rfl)
theorem lwm_81 : Cond.methodLink RX6 72 yX5_tellOil ∈ wsL_law := lwp_5 _ (List.mem_of_getElem? (i := 1) rfl)
theorem lwm_82 : Cond.code yX3_set cX3_set 3 none ∈ wsL_law := lwp_5 _ (List.mem_of_getElem? (i := 0) rfl)
theorem lwm_83 : Cond.selects RX3 yX3_set yX3_set ∈ wsL_law := lwp_4 _ (List.mem_of_getElem? (i := 23) rfl)
theorem lwm_84 : Cond.instanceMethod yX3_set ∈ wsL_law := lwp_4 _ (List.mem_of_getElem? (i := 22) rfl)
theorem lwm_85 : Cond.methodLink RX5 55 yX3_set ∈ wsL_law := lwp_4 _ (List.mem_of_getElem? (i := 21) rfl)
theorem lwm_86 : Cond.fieldLink RX5 43 "BlindLanterns$Told" "men" "I" ∈ wsL_law := lwp_4 _ (List.mem_of_getElem? (i := 20) rfl)
theorem lwm_87 : Cond.code yX5_addMan cX5_addMan 2 (some .boolean) ∈ wsL_law := lwp_4 _ (List.mem_of_getElem? (i := 19) rfl)
theorem lwm_88 : Cond.selects RX5 yX5_addMan yX5_addMan ∈ wsL_law := lwp_4 _ (List.mem_of_getElem? (i := 18) rfl)
theorem lwm_89 : Cond.instanceMethod yX5_addMan ∈ wsL_law := lwp_4 _ (List.mem_of_getElem? (i := 17) rfl)
theorem lwm_90 : Cond.methodLink RX6 68 yX5_addMan ∈ wsL_law := lwp_4 _ (List.mem_of_getElem? (i := 16) rfl)
theorem lwm_91 : Cond.methodLink RX5 11 yX3_init ∈ wsL_law := lwp_4 _ (List.mem_of_getElem? (i := 15) rfl)
theorem lwm_92 : Cond.fieldLink RX5 37 "BlindLanterns$Told" "sunTo" "I" ∈ wsL_law := lwp_4 _ (List.mem_of_getElem? (i := 14) rfl)
theorem lwm_93 : Cond.fieldLink RX5 34 "BlindLanterns$Told" "sunFrom" "I" ∈ wsL_law := lwp_4 _ (List.mem_of_getElem? (i := 13) rfl)
theorem lwm_94 : Cond.constant RX5 33 (1000000) ∈ wsL_law := lwp_4 _ (List.mem_of_getElem? (i := 12) rfl)
theorem lwm_95 : Cond.fieldLink RX5 29 "BlindLanterns$Told" "step" "I" ∈ wsL_law := lwp_4 _ (List.mem_of_getElem? (i := 11) rfl)
theorem lwm_96 : Cond.fieldLink RX5 26 "BlindLanterns$Told" "draughtPosts" "LBlindLanterns$Row;" ∈ wsL_law := lwp_4 _ (List.mem_of_getElem? (i := 10) rfl)
theorem lwm_97 : Cond.code yX3_get cX3_get 2 (some .int) ∈ wsL_law := lwp_5 _ (List.mem_of_getElem? (i := 22) rfl)
theorem lwm_98 : Cond.selects RX3 yX3_get yX3_get ∈ wsL_law := lwp_5 _ (List.mem_of_getElem? (i := 21) rfl)
theorem lwm_99 : Cond.instanceMethod yX3_get ∈ wsL_law := lwp_5 _ (List.mem_of_getElem? (i := 20) rfl)
theorem lwm_100 : Cond.methodLink RX3 13 yX3_get ∈ wsL_law := lwp_5 _ (List.mem_of_getElem? (i := 19) rfl)
theorem lwm_101 : Cond.code yX3_copy cX3_copy 3 none ∈ wsL_law := lwp_5 _ (List.mem_of_getElem? (i := 18) rfl)
theorem lwm_102 : Cond.selects RX3 yX3_copy yX3_copy ∈ wsL_law := lwp_5 _ (List.mem_of_getElem? (i := 17) rfl)
theorem lwm_103 : Cond.instanceMethod yX3_copy ∈ wsL_law := lwp_5 _ (List.mem_of_getElem? (i := 16) rfl)
theorem lwm_104 : Cond.methodLink RX1 37 yX3_copy ∈ wsL_law := lwp_5 _ (List.mem_of_getElem? (i := 15) rfl)
theorem lwm_105 : Cond.methodLink RX1 30 yX3_set ∈ wsL_law := lwp_5 _ (List.mem_of_getElem? (i := 14) rfl)
theorem lwm_106 : Cond.fieldLink RX1 45 "BlindLanterns$Pass" "bell" "I" ∈ wsL_law := lwp_5 _ (List.mem_of_getElem? (i := 13) rfl)
theorem lwm_107 : Cond.fieldLink RX1 44 "BlindLanterns$Pass" "lit" "I" ∈ wsL_law := lwp_5 _ (List.mem_of_getElem? (i := 12) rfl)
theorem lwm_108 : Cond.fieldLink RX1 29 "BlindLanterns$Pass" "men" "I" ∈ wsL_law := lwp_5 _ (List.mem_of_getElem? (i := 11) rfl)
theorem lwm_109 : Cond.code yX1_begin cX1_begin 3 none ∈ wsL_law := lwp_5 _ (List.mem_of_getElem? (i := 10) rfl)
theorem lwm_110 : Cond.code yX7_init cX7_init 1 none ∈ wsL_law := lwp_6 _ (List.mem_of_getElem? (i := 1) rfl)
theorem lwm_111 : Cond.fieldLink RX7 68 "BlindLanternsModel" "wanted" "[I" ∈ wsL_law := lwp_6 _ (List.mem_of_getElem? (i := 22) rfl)
theorem lwm_112 : Cond.fieldLink RX7 65 "BlindLanternsModel" "moved" "[I" ∈ wsL_law := lwp_6 _ (List.mem_of_getElem? (i := 21) rfl)
theorem lwm_113 : Cond.fieldLink RX7 62 "BlindLanternsModel" "cold" "I" ∈ wsL_law := lwp_6 _ (List.mem_of_getElem? (i := 20) rfl)
theorem lwm_114 : Cond.fieldLink RX7 59 "BlindLanternsModel" "atPost" "I" ∈ wsL_law := lwp_6 _ (List.mem_of_getElem? (i := 19) rfl)
theorem lwm_115 : Cond.fieldLink RX7 55 "BlindLanternsModel" "atBell" "I" ∈ wsL_law := lwp_6 _ (List.mem_of_getElem? (i := 18) rfl)
theorem lwm_116 : Cond.fieldLink RX7 52 "BlindLanternsModel" "sight" "[I" ∈ wsL_law := lwp_6 _ (List.mem_of_getElem? (i := 17) rfl)
theorem lwm_117 : Cond.fieldLink RX7 49 "BlindLanternsModel" "keep" "[I" ∈ wsL_law := lwp_6 _ (List.mem_of_getElem? (i := 16) rfl)
theorem lwm_118 : Cond.fieldLink RX7 46 "BlindLanternsModel" "back" "[I" ∈ wsL_law := lwp_6 _ (List.mem_of_getElem? (i := 15) rfl)
theorem lwm_119 : Cond.fieldLink RX7 43 "BlindLanternsModel" "tried" "[I" ∈ wsL_law := lwp_6 _ (List.mem_of_getElem? (i := 14) rfl)
theorem lwm_120 : Cond.fieldLink RX7 40 "BlindLanternsModel" "now" "[I" ∈ wsL_law := lwp_6 _ (List.mem_of_getElem? (i := 13) rfl)
theorem lwm_121 : Cond.fieldLink RX7 37 "BlindLanternsModel" "draught" "[I" ∈ wsL_law := lwp_6 _ (List.mem_of_getElem? (i := 12) rfl)
theorem lwm_122 : Cond.fieldLink RX7 34 "BlindLanternsModel" "lit" "[I" ∈ wsL_law := lwp_6 _ (List.mem_of_getElem? (i := 11) rfl)
theorem lwm_123 : Cond.fieldLink RX7 31 "BlindLanternsModel" "oil" "[I" ∈ wsL_law := lwp_6 _ (List.mem_of_getElem? (i := 10) rfl)
theorem lwm_124 : Cond.fieldLink RX7 28 "BlindLanternsModel" "kind" "[I" ∈ wsL_law := lwp_6 _ (List.mem_of_getElem? (i := 9) rfl)
theorem lwm_125 : Cond.fieldLink RX7 25 "BlindLanternsModel" "readDraught" "[I" ∈ wsL_law := lwp_6 _ (List.mem_of_getElem? (i := 8) rfl)
theorem lwm_126 : Cond.fieldLink RX7 22 "BlindLanternsModel" "readLit" "[I" ∈ wsL_law := lwp_6 _ (List.mem_of_getElem? (i := 7) rfl)
theorem lwm_127 : Cond.fieldLink RX7 19 "BlindLanternsModel" "readOil" "[I" ∈ wsL_law := lwp_6 _ (List.mem_of_getElem? (i := 6) rfl)
theorem lwm_128 : Cond.fieldLink RX7 16 "BlindLanternsModel" "readKind" "[I" ∈ wsL_law := lwp_6 _ (List.mem_of_getElem? (i := 5) rfl)
theorem lwm_129 : Cond.fieldLink RX7 13 "BlindLanternsModel" "number" "[I" ∈ wsL_law := lwp_6 _ (List.mem_of_getElem? (i := 4) rfl)
theorem lwm_130 : Cond.fieldLink RX7 7 "BlindLanternsModel" "text" "[I" ∈ wsL_law := lwp_6 _ (List.mem_of_getElem? (i := 3) rfl)
theorem lwm_131 : Cond.methodLink RX7 1 objectInit ∈ wsL_law := lwp_6 _ (List.mem_of_getElem? (i := 2) rfl)
theorem lwm_132 : Cond.code yX7_begin cX7_begin 3 none ∈ wsL_law := lwp_7 _ (List.mem_of_getElem? (i := 5) rfl)
theorem lwm_133 : Cond.initialized RX7 ∈ wsL_law := lwp_1 _ (List.mem_of_getElem? (i := 5) rfl)
theorem lwm_134 : Cond.selects RX7 yX7_begin yX7_begin ∈ wsL_law := lwp_7 _ (List.mem_of_getElem? (i := 4) rfl)
theorem lwm_135 : Cond.instanceMethod yX7_begin ∈ wsL_law := lwp_7 _ (List.mem_of_getElem? (i := 3) rfl)
theorem lwm_136 : Cond.methodLink RX7 80 yX7_begin ∈ wsL_law := lwp_7 _ (List.mem_of_getElem? (i := 2) rfl)
theorem lwm_137 : Cond.fieldLink RX7 77 "BlindLanternsModel" "sun" "I" ∈ wsL_law := lwp_7 _ (List.mem_of_getElem? (i := 1) rfl)
theorem lwm_138 : Cond.fieldLink RX7 74 "BlindLanternsModel" "on" "I" ∈ wsL_law := lwp_7 _ (List.mem_of_getElem? (i := 0) rfl)
theorem lwm_139 : Cond.fieldLink RX7 71 "BlindLanternsModel" "men" "I" ∈ wsL_law := lwp_6 _ (List.mem_of_getElem? (i := 23) rfl)
theorem lwm_140 : Cond.code yX6_write cX6_write 5 (some .int) ∈ wsL_law := lwp_7 _ (List.mem_of_getElem? (i := 9) rfl)
theorem lwm_141 : Cond.methodLink RX6 84 yX3_set ∈ wsL_law := lwp_7 _ (List.mem_of_getElem? (i := 11) rfl)
theorem lwm_142 : Cond.fieldLink RX6 80 "BlindLanterns" "length" "I" ∈ wsL_law := lwp_7 _ (List.mem_of_getElem? (i := 10) rfl)
theorem lwm_143 : Cond.code yX7_write cX7_write 5 (some .int) ∈ wsL_law := lwp_7 _ (List.mem_of_getElem? (i := 15) rfl)
theorem lwm_144 : Cond.code yX7_in cX7_in 3 (some .boolean) ∈ wsL_law := lwp_7 _ (List.mem_of_getElem? (i := 20) rfl)
theorem lwm_145 : Cond.static yX7_in ∈ wsL_law := lwp_7 _ (List.mem_of_getElem? (i := 19) rfl)
theorem lwm_146 : Cond.methodLink RX7 84 yX7_in ∈ wsL_law := lwp_7 _ (List.mem_of_getElem? (i := 18) rfl)
theorem lwm_147 : Cond.constantLong RX7 91 (255) ∈ wsL_law := lwp_7 _ (List.mem_of_getElem? (i := 17) rfl)
theorem lwm_148 : Cond.fieldLink RX7 88 "BlindLanternsModel" "bytes" "I" ∈ wsL_law := lwp_7 _ (List.mem_of_getElem? (i := 16) rfl)
theorem lwm_149 : Cond.code yX6_wipe cX6_wipe 2 (some .int) ∈ wsL_law := lwp_8 _ (List.mem_of_getElem? (i := 0) rfl)
theorem lwm_150 : Cond.code yX7_wipe cX7_wipe 2 (some .int) ∈ wsL_law := lwp_8 _ (List.mem_of_getElem? (i := 4) rfl)
theorem lwm_151 : Cond.code yX6_fault cX6_fault 1 (some .int) ∈ wsL_law := lwp_8 _ (List.mem_of_getElem? (i := 8) rfl)
theorem lwm_152 : Cond.fieldLink RX5 52 "BlindLanterns$Told" "draughts" "I" ∈ wsL_law := lwp_8 _ (List.mem_of_getElem? (i := 17) rfl)
theorem lwm_153 : Cond.code yX5_clear cX5_clear 1 none ∈ wsL_law := lwp_8 _ (List.mem_of_getElem? (i := 16) rfl)
theorem lwm_154 : Cond.selects RX5 yX5_clear yX5_clear ∈ wsL_law := lwp_8 _ (List.mem_of_getElem? (i := 15) rfl)
theorem lwm_155 : Cond.instanceMethod yX5_clear ∈ wsL_law := lwp_8 _ (List.mem_of_getElem? (i := 14) rfl)
theorem lwm_156 : Cond.methodLink RX2 20 yX5_clear ∈ wsL_law := lwp_8 _ (List.mem_of_getElem? (i := 13) rfl)
theorem lwm_157 : Cond.code yX2_firstFault cX2_firstFault 7 (some .int) ∈ wsL_law := lwp_8 _ (List.mem_of_getElem? (i := 12) rfl)
theorem lwm_158 : Cond.selects RX2 yX2_firstFault yX2_firstFault ∈ wsL_law := lwp_8 _ (List.mem_of_getElem? (i := 11) rfl)
theorem lwm_159 : Cond.instanceMethod yX2_firstFault ∈ wsL_law := lwp_8 _ (List.mem_of_getElem? (i := 10) rfl)
theorem lwm_160 : Cond.methodLink RX6 88 yX2_firstFault ∈ wsL_law := lwp_8 _ (List.mem_of_getElem? (i := 9) rfl)
theorem lwm_161 : Cond.code yX2_tell cX2_tell 5 (some .boolean) ∈ wsL_law := lwp_9 _ (List.mem_of_getElem? (i := 8) rfl)
theorem lwm_162 : Cond.selects RX2 yX2_tell yX2_tell ∈ wsL_law := lwp_9 _ (List.mem_of_getElem? (i := 7) rfl)
theorem lwm_163 : Cond.instanceMethod yX2_tell ∈ wsL_law := lwp_9 _ (List.mem_of_getElem? (i := 6) rfl)
theorem lwm_164 : Cond.methodLink RX2 33 yX2_tell ∈ wsL_law := lwp_9 _ (List.mem_of_getElem? (i := 5) rfl)
theorem lwm_165 : Cond.methodLink RX2 41 yX3_set ∈ wsL_law := lwp_9 _ (List.mem_of_getElem? (i := 4) rfl)
theorem lwm_166 : Cond.methodLink RX2 29 yX3_get ∈ wsL_law := lwp_9 _ (List.mem_of_getElem? (i := 3) rfl)
theorem lwm_167 : Cond.fieldLink RX2 37 "BlindLanterns$Reader" "count" "I" ∈ wsL_law := lwp_9 _ (List.mem_of_getElem? (i := 2) rfl)
theorem lwm_168 : Cond.code yX2_splitItem cX2_splitItem 8 (some .int) ∈ wsL_law := lwp_9 _ (List.mem_of_getElem? (i := 1) rfl)
theorem lwm_169 : Cond.selects RX2 yX2_splitItem yX2_splitItem ∈ wsL_law := lwp_9 _ (List.mem_of_getElem? (i := 0) rfl)
theorem lwm_170 : Cond.instanceMethod yX2_splitItem ∈ wsL_law := lwp_8 _ (List.mem_of_getElem? (i := 23) rfl)
theorem lwm_171 : Cond.methodLink RX2 25 yX2_splitItem ∈ wsL_law := lwp_8 _ (List.mem_of_getElem? (i := 22) rfl)
theorem lwm_172 : Cond.code yX3_clear cX3_clear 2 none ∈ wsL_law := lwp_8 _ (List.mem_of_getElem? (i := 21) rfl)
theorem lwm_173 : Cond.selects RX3 yX3_clear yX3_clear ∈ wsL_law := lwp_8 _ (List.mem_of_getElem? (i := 20) rfl)
theorem lwm_174 : Cond.instanceMethod yX3_clear ∈ wsL_law := lwp_8 _ (List.mem_of_getElem? (i := 19) rfl)
theorem lwm_175 : Cond.methodLink RX5 40 yX3_clear ∈ wsL_law := lwp_8 _ (List.mem_of_getElem? (i := 18) rfl)
theorem lwm_176 : Cond.code yX5_addDraught cX5_addDraught 3 (some .boolean) ∈ wsL_law := lwp_9 _ (List.mem_of_getElem? (i := 23) rfl)
theorem lwm_177 : Cond.selects RX5 yX5_addDraught yX5_addDraught ∈ wsL_law := lwp_9 _ (List.mem_of_getElem? (i := 22) rfl)
theorem lwm_178 : Cond.instanceMethod yX5_addDraught ∈ wsL_law := lwp_9 _ (List.mem_of_getElem? (i := 21) rfl)
theorem lwm_179 : Cond.methodLink RX2 59 yX5_addDraught ∈ wsL_law := lwp_9 _ (List.mem_of_getElem? (i := 20) rfl)
theorem lwm_180 : Cond.code yX5_tellStep cX5_tellStep 2 (some .boolean) ∈ wsL_law := lwp_9 _ (List.mem_of_getElem? (i := 19) rfl)
theorem lwm_181 : Cond.selects RX5 yX5_tellStep yX5_tellStep ∈ wsL_law := lwp_9 _ (List.mem_of_getElem? (i := 18) rfl)
theorem lwm_182 : Cond.instanceMethod yX5_tellStep ∈ wsL_law := lwp_9 _ (List.mem_of_getElem? (i := 17) rfl)
theorem lwm_183 : Cond.methodLink RX2 56 yX5_tellStep ∈ wsL_law := lwp_9 _ (List.mem_of_getElem? (i := 16) rfl)
theorem lwm_184 : Cond.methodLink RX5 59 yX5_tellOil ∈ wsL_law := lwp_9 _ (List.mem_of_getElem? (i := 15) rfl)
theorem lwm_185 : Cond.code yX5_tellCheese cX5_tellCheese 2 (some .boolean) ∈ wsL_law := lwp_9 _ (List.mem_of_getElem? (i := 14) rfl)
theorem lwm_186 : Cond.selects RX5 yX5_tellCheese yX5_tellCheese ∈ wsL_law := lwp_9 _ (List.mem_of_getElem? (i := 13) rfl)
theorem lwm_187 : Cond.instanceMethod yX5_tellCheese ∈ wsL_law := lwp_9 _ (List.mem_of_getElem? (i := 12) rfl)
theorem lwm_188 : Cond.methodLink RX2 53 yX5_tellCheese ∈ wsL_law := lwp_9 _ (List.mem_of_getElem? (i := 11) rfl)
theorem lwm_189 : Cond.methodLink RX2 49 yX5_tellOil ∈ wsL_law := lwp_9 _ (List.mem_of_getElem? (i := 10) rfl)
theorem lwm_190 : Cond.methodLink RX2 45 yX5_addMan ∈ wsL_law := lwp_9 _ (List.mem_of_getElem? (i := 9) rfl)
theorem lwm_191 : Cond.code yX5_tellSun cX5_tellSun 3 (some .boolean) ∈ wsL_law := lwp_10 _ (List.mem_of_getElem? (i := 3) rfl)
theorem lwm_192 : Cond.selects RX5 yX5_tellSun yX5_tellSun ∈ wsL_law := lwp_10 _ (List.mem_of_getElem? (i := 2) rfl)
theorem lwm_193 : Cond.instanceMethod yX5_tellSun ∈ wsL_law := lwp_10 _ (List.mem_of_getElem? (i := 1) rfl)
theorem lwm_194 : Cond.methodLink RX2 63 yX5_tellSun ∈ wsL_law := lwp_10 _ (List.mem_of_getElem? (i := 0) rfl)
theorem lwm_195 : Cond.code yX7_fault cX7_fault 1 (some .int) ∈ wsL_law := lwp_10 _ (List.mem_of_getElem? (i := 7) rfl)
theorem lwm_196 : Cond.instanceMethod yX7_areNumbers ∈ wsL_law := lwp_10 _ (List.mem_of_getElem? (i := 23) rfl)
theorem lwm_197 : Cond.methodLink RX7 99 yX7_areNumbers ∈ wsL_law := lwp_10 _ (List.mem_of_getElem? (i := 22) rfl)
theorem lwm_198 : Cond.code yX7_isItem cX7_isItem 2 (some .boolean) ∈ wsL_law := lwp_10 _ (List.mem_of_getElem? (i := 21) rfl)
theorem lwm_199 : Cond.selects RX7 yX7_isItem yX7_isItem ∈ wsL_law := lwp_10 _ (List.mem_of_getElem? (i := 20) rfl)
theorem lwm_200 : Cond.instanceMethod yX7_isItem ∈ wsL_law := lwp_10 _ (List.mem_of_getElem? (i := 19) rfl)
theorem lwm_201 : Cond.methodLink RX7 119 yX7_isItem ∈ wsL_law := lwp_10 _ (List.mem_of_getElem? (i := 18) rfl)
theorem lwm_202 : Cond.fieldLink RX7 116 "BlindLanternsModel" "readDark" "I" ∈ wsL_law := lwp_10 _ (List.mem_of_getElem? (i := 17) rfl)
theorem lwm_203 : Cond.fieldLink RX7 113 "BlindLanternsModel" "readSun" "I" ∈ wsL_law := lwp_10 _ (List.mem_of_getElem? (i := 16) rfl)
theorem lwm_204 : Cond.fieldLink RX7 110 "BlindLanternsModel" "readDraughts" "I" ∈ wsL_law := lwp_10 _ (List.mem_of_getElem? (i := 15) rfl)
theorem lwm_205 : Cond.fieldLink RX7 107 "BlindLanternsModel" "readOn" "I" ∈ wsL_law := lwp_10 _ (List.mem_of_getElem? (i := 14) rfl)
theorem lwm_206 : Cond.fieldLink RX7 96 "BlindLanternsModel" "readMen" "I" ∈ wsL_law := lwp_10 _ (List.mem_of_getElem? (i := 13) rfl)
theorem lwm_207 : Cond.fieldLink RX7 93 "BlindLanternsModel" "position" "I" ∈ wsL_law := lwp_10 _ (List.mem_of_getElem? (i := 12) rfl)
theorem lwm_208 : Cond.code yX7_findFault cX7_findFault 2 (some .int) ∈ wsL_law := lwp_10 _ (List.mem_of_getElem? (i := 11) rfl)
theorem lwm_209 : Cond.selects RX7 yX7_findFault yX7_findFault ∈ wsL_law := lwp_10 _ (List.mem_of_getElem? (i := 10) rfl)
theorem lwm_210 : Cond.instanceMethod yX7_findFault ∈ wsL_law := lwp_10 _ (List.mem_of_getElem? (i := 9) rfl)
theorem lwm_211 : Cond.methodLink RX7 122 yX7_findFault ∈ wsL_law := lwp_10 _ (List.mem_of_getElem? (i := 8) rfl)
theorem lwm_212 : Cond.code yX7_isLantern cX7_isLantern 1 (some .boolean) ∈ wsL_law := lwp_11 _ (List.mem_of_getElem? (i := 5) rfl)
theorem lwm_213 : Cond.selects RX7 yX7_isLantern yX7_isLantern ∈ wsL_law := lwp_11 _ (List.mem_of_getElem? (i := 4) rfl)
theorem lwm_214 : Cond.instanceMethod yX7_isLantern ∈ wsL_law := lwp_11 _ (List.mem_of_getElem? (i := 3) rfl)
theorem lwm_215 : Cond.methodLink RX7 103 yX7_isLantern ∈ wsL_law := lwp_11 _ (List.mem_of_getElem? (i := 2) rfl)
theorem lwm_216 : Cond.code yX7_areNumbers cX7_areNumbers 4 (some .boolean) ∈ wsL_law := lwp_11 _ (List.mem_of_getElem? (i := 1) rfl)
theorem lwm_217 : Cond.selects RX7 yX7_areNumbers yX7_areNumbers ∈ wsL_law := lwp_11 _ (List.mem_of_getElem? (i := 0) rfl)
theorem lwm_218 : Cond.code yX6_lay cX6_lay 2 (some .int) ∈ wsL_law := lwp_11 _ (List.mem_of_getElem? (i := 9) rfl)
theorem lwm_219 : Cond.methodLink RX5 63 yX3_get ∈ wsL_law := lwp_11 _ (List.mem_of_getElem? (i := 14) rfl)
theorem lwm_220 : Cond.code yX5_canBeLaid cX5_canBeLaid 2 (some .boolean) ∈ wsL_law := lwp_11 _ (List.mem_of_getElem? (i := 13) rfl)
theorem lwm_221 : Cond.selects RX5 yX5_canBeLaid yX5_canBeLaid ∈ wsL_law := lwp_11 _ (List.mem_of_getElem? (i := 12) rfl)
theorem lwm_222 : Cond.instanceMethod yX5_canBeLaid ∈ wsL_law := lwp_11 _ (List.mem_of_getElem? (i := 11) rfl)
theorem lwm_223 : Cond.methodLink RX6 92 yX5_canBeLaid ∈ wsL_law := lwp_11 _ (List.mem_of_getElem? (i := 10) rfl)
theorem lwm_224 : Cond.fieldLink RX4 16 "BlindLanterns$Shelf" "count" "I" ∈ wsL_law := lwp_12 _ (List.mem_of_getElem? (i := 0) rfl)
theorem lwm_225 : Cond.code yX4_clear cX4_clear 1 none ∈ wsL_law := lwp_11 _ (List.mem_of_getElem? (i := 23) rfl)
theorem lwm_226 : Cond.selects RX4 yX4_clear yX4_clear ∈ wsL_law := lwp_11 _ (List.mem_of_getElem? (i := 22) rfl)
theorem lwm_227 : Cond.instanceMethod yX4_clear ∈ wsL_law := lwp_11 _ (List.mem_of_getElem? (i := 21) rfl)
theorem lwm_228 : Cond.methodLink RX6 99 yX4_clear ∈ wsL_law := lwp_11 _ (List.mem_of_getElem? (i := 20) rfl)
theorem lwm_229 : Cond.fieldLink RX0 26 "BlindLanterns$Felt" "count" "I" ∈ wsL_law := lwp_11 _ (List.mem_of_getElem? (i := 19) rfl)
theorem lwm_230 : Cond.code yX0_clear cX0_clear 1 none ∈ wsL_law := lwp_11 _ (List.mem_of_getElem? (i := 18) rfl)
theorem lwm_231 : Cond.selects RX0 yX0_clear yX0_clear ∈ wsL_law := lwp_11 _ (List.mem_of_getElem? (i := 17) rfl)
theorem lwm_232 : Cond.instanceMethod yX0_clear ∈ wsL_law := lwp_11 _ (List.mem_of_getElem? (i := 16) rfl)
theorem lwm_233 : Cond.methodLink RX6 96 yX0_clear ∈ wsL_law := lwp_11 _ (List.mem_of_getElem? (i := 15) rfl)
theorem lwm_234 : Cond.code yX7_lay cX7_lay 3 (some .int) ∈ wsL_law := lwp_12 _ (List.mem_of_getElem? (i := 4) rfl)
theorem lwm_235 : Cond.fieldLink RX7 138 "BlindLanternsModel" "kept" "I" ∈ wsL_law := lwp_12 _ (List.mem_of_getElem? (i := 9) rfl)
theorem lwm_236 : Cond.fieldLink RX7 135 "BlindLanternsModel" "backs" "I" ∈ wsL_law := lwp_12 _ (List.mem_of_getElem? (i := 8) rfl)
theorem lwm_237 : Cond.fieldLink RX7 132 "BlindLanternsModel" "sights" "I" ∈ wsL_law := lwp_12 _ (List.mem_of_getElem? (i := 7) rfl)
theorem lwm_238 : Cond.fieldLink RX7 129 "BlindLanternsModel" "dark" "I" ∈ wsL_law := lwp_12 _ (List.mem_of_getElem? (i := 6) rfl)
theorem lwm_239 : Cond.fieldLink RX7 126 "BlindLanternsModel" "draughts" "I" ∈ wsL_law := lwp_12 _ (List.mem_of_getElem? (i := 5) rfl)
theorem lwm_240 : Cond.code yX6_lantern cX6_lantern 3 (some .int) ∈ wsL_law := lwp_12 _ (List.mem_of_getElem? (i := 13) rfl)
theorem lwm_241 : Cond.code yX5_isCheese cX5_isCheese 2 (some .boolean) ∈ wsL_law := lwp_13 _ (List.mem_of_getElem? (i := 2) rfl)
theorem lwm_242 : Cond.selects RX5 yX5_isCheese yX5_isCheese ∈ wsL_law := lwp_13 _ (List.mem_of_getElem? (i := 1) rfl)
theorem lwm_243 : Cond.instanceMethod yX5_isCheese ∈ wsL_law := lwp_13 _ (List.mem_of_getElem? (i := 0) rfl)
theorem lwm_244 : Cond.methodLink RX6 119 yX5_isCheese ∈ wsL_law := lwp_12 _ (List.mem_of_getElem? (i := 23) rfl)
theorem lwm_245 : Cond.code yX1_isLit cX1_isLit 2 (some .boolean) ∈ wsL_law := lwp_12 _ (List.mem_of_getElem? (i := 22) rfl)
theorem lwm_246 : Cond.selects RX1 yX1_isLit yX1_isLit ∈ wsL_law := lwp_12 _ (List.mem_of_getElem? (i := 21) rfl)
theorem lwm_247 : Cond.instanceMethod yX1_isLit ∈ wsL_law := lwp_12 _ (List.mem_of_getElem? (i := 20) rfl)
theorem lwm_248 : Cond.methodLink RX6 116 yX1_isLit ∈ wsL_law := lwp_12 _ (List.mem_of_getElem? (i := 19) rfl)
theorem lwm_249 : Cond.methodLink RX6 109 yX3_get ∈ wsL_law := lwp_12 _ (List.mem_of_getElem? (i := 18) rfl)
theorem lwm_250 : Cond.code yX6_isMan cX6_isMan 2 (some .boolean) ∈ wsL_law := lwp_12 _ (List.mem_of_getElem? (i := 17) rfl)
theorem lwm_251 : Cond.initialized RX6 ∈ wsL_law := lwp_1 _ (List.mem_of_getElem? (i := 2) rfl)
theorem lwm_252 : Cond.selects RX6 yX6_isMan yX6_isMan ∈ wsL_law := lwp_12 _ (List.mem_of_getElem? (i := 16) rfl)
theorem lwm_253 : Cond.instanceMethod yX6_isMan ∈ wsL_law := lwp_12 _ (List.mem_of_getElem? (i := 15) rfl)
theorem lwm_254 : Cond.methodLink RX6 103 yX6_isMan ∈ wsL_law := lwp_12 _ (List.mem_of_getElem? (i := 14) rfl)
theorem lwm_255 : Cond.code yX7_lantern cX7_lantern 5 (some .int) ∈ wsL_law := lwp_13 _ (List.mem_of_getElem? (i := 6) rfl)
theorem lwm_256 : Cond.code yX7_bit cX7_bit 1 (some .int) ∈ wsL_law := lwp_13 _ (List.mem_of_getElem? (i := 13) rfl)
theorem lwm_257 : Cond.static yX7_bit ∈ wsL_law := lwp_13 _ (List.mem_of_getElem? (i := 12) rfl)
theorem lwm_258 : Cond.methodLink RX7 155 yX7_bit ∈ wsL_law := lwp_13 _ (List.mem_of_getElem? (i := 11) rfl)
theorem lwm_259 : Cond.code yX7_isMan cX7_isMan 2 (some .boolean) ∈ wsL_law := lwp_13 _ (List.mem_of_getElem? (i := 10) rfl)
theorem lwm_260 : Cond.selects RX7 yX7_isMan yX7_isMan ∈ wsL_law := lwp_13 _ (List.mem_of_getElem? (i := 9) rfl)
theorem lwm_261 : Cond.instanceMethod yX7_isMan ∈ wsL_law := lwp_13 _ (List.mem_of_getElem? (i := 8) rfl)
theorem lwm_262 : Cond.methodLink RX7 152 yX7_isMan ∈ wsL_law := lwp_13 _ (List.mem_of_getElem? (i := 7) rfl)
theorem lwm_263 : Cond.code yX6_post cX6_post 3 (some .int) ∈ wsL_law := lwp_13 _ (List.mem_of_getElem? (i := 17) rfl)
theorem lwm_264 : Cond.selects RX6 yX6_warm yX6_warm ∈ wsL_law := lwp_14 _ (List.mem_of_getElem? (i := 1) rfl)
theorem lwm_265 : Cond.instanceMethod yX6_warm ∈ wsL_law := lwp_14 _ (List.mem_of_getElem? (i := 0) rfl)
theorem lwm_266 : Cond.methodLink RX6 128 yX6_warm ∈ wsL_law := lwp_13 _ (List.mem_of_getElem? (i := 23) rfl)
theorem lwm_267 : Cond.methodLink RX1 48 yX3_get ∈ wsL_law := lwp_13 _ (List.mem_of_getElem? (i := 22) rfl)
theorem lwm_268 : Cond.code yX1_lanternAt cX1_lanternAt 3 (some .int) ∈ wsL_law := lwp_13 _ (List.mem_of_getElem? (i := 21) rfl)
theorem lwm_269 : Cond.selects RX1 yX1_lanternAt yX1_lanternAt ∈ wsL_law := lwp_13 _ (List.mem_of_getElem? (i := 20) rfl)
theorem lwm_270 : Cond.instanceMethod yX1_lanternAt ∈ wsL_law := lwp_13 _ (List.mem_of_getElem? (i := 19) rfl)
theorem lwm_271 : Cond.methodLink RX6 125 yX1_lanternAt ∈ wsL_law := lwp_13 _ (List.mem_of_getElem? (i := 18) rfl)
theorem lwm_272 : Cond.code Lib.Math.min.name Lib.Math.min.code 2 (some .int) ∈ wsL_law := lwp_14 _ (List.mem_of_getElem? (i := 13) rfl)
theorem lwm_273 : Cond.initialized "java/lang/Math" ∈ wsL_law := lwp_14 _ (List.mem_of_getElem? (i := 12) rfl)
theorem lwm_274 : Cond.static Lib.Math.min.name ∈ wsL_law := lwp_14 _ (List.mem_of_getElem? (i := 11) rfl)
theorem lwm_275 : Cond.methodLink RX5 79 Lib.Math.min.name ∈ wsL_law := lwp_14 _ (List.mem_of_getElem? (i := 10) rfl)
theorem lwm_276 : Cond.code yX5_reckonDraughts cX5_reckonDraughts 6 none ∈ wsL_law := lwp_14 _ (List.mem_of_getElem? (i := 9) rfl)
theorem lwm_277 : Cond.selects RX5 yX5_reckonDraughts yX5_reckonDraughts ∈ wsL_law := lwp_14 _ (List.mem_of_getElem? (i := 8) rfl)
theorem lwm_278 : Cond.instanceMethod yX5_reckonDraughts ∈ wsL_law := lwp_14 _ (List.mem_of_getElem? (i := 7) rfl)
theorem lwm_279 : Cond.methodLink RX6 146 yX5_reckonDraughts ∈ wsL_law := lwp_14 _ (List.mem_of_getElem? (i := 6) rfl)
theorem lwm_280 : Cond.code yX6_isLastBell cX6_isLastBell 1 (some .boolean) ∈ wsL_law := lwp_14 _ (List.mem_of_getElem? (i := 5) rfl)
theorem lwm_281 : Cond.static yX6_isLastBell ∈ wsL_law := lwp_14 _ (List.mem_of_getElem? (i := 4) rfl)
theorem lwm_282 : Cond.methodLink RX6 161 yX6_isLastBell ∈ wsL_law := lwp_14 _ (List.mem_of_getElem? (i := 3) rfl)
theorem lwm_283 : Cond.code yX6_warm cX6_warm 4 (some .int) ∈ wsL_law := lwp_14 _ (List.mem_of_getElem? (i := 2) rfl)
theorem lwm_284 : Cond.methodLink RX1 61 Lib.Math.min.name ∈ wsL_law := lwp_15 _ (List.mem_of_getElem? (i := 11) rfl)
theorem lwm_285 : Cond.code yX1_litFor cX1_litFor 3 (some .int) ∈ wsL_law := lwp_15 _ (List.mem_of_getElem? (i := 10) rfl)
theorem lwm_286 : Cond.selects RX1 yX1_litFor yX1_litFor ∈ wsL_law := lwp_15 _ (List.mem_of_getElem? (i := 9) rfl)
theorem lwm_287 : Cond.instanceMethod yX1_litFor ∈ wsL_law := lwp_15 _ (List.mem_of_getElem? (i := 8) rfl)
theorem lwm_288 : Cond.methodLink RX6 232 yX1_litFor ∈ wsL_law := lwp_15 _ (List.mem_of_getElem? (i := 7) rfl)
theorem lwm_289 : Cond.methodLink RX6 220 yX5_postBefore ∈ wsL_law := lwp_15 _ (List.mem_of_getElem? (i := 6) rfl)
theorem lwm_290 : Cond.code yX6_isLitBehind cX6_isLitBehind 4 (some .boolean) ∈ wsL_law := lwp_15 _ (List.mem_of_getElem? (i := 5) rfl)
theorem lwm_291 : Cond.selects RX6 yX6_isLitBehind yX6_isLitBehind ∈ wsL_law := lwp_15 _ (List.mem_of_getElem? (i := 4) rfl)
theorem lwm_292 : Cond.instanceMethod yX6_isLitBehind ∈ wsL_law := lwp_15 _ (List.mem_of_getElem? (i := 3) rfl)
theorem lwm_293 : Cond.methodLink RX6 164 yX6_isLitBehind ∈ wsL_law := lwp_15 _ (List.mem_of_getElem? (i := 2) rfl)
theorem lwm_294 : Cond.code yJ9_floorMod_7cf53 cJ9_floorMod_7cf53 3 (some .int) ∈ wsL_law := lwp_15 _ (List.mem_of_getElem? (i := 1) rfl)
theorem lwm_295 : Cond.initialized RJ9 ∈ wsL_law := lwp_15 _ (List.mem_of_getElem? (i := 0) rfl)
theorem lwm_296 : Cond.static yJ9_floorMod_7cf53 ∈ wsL_law := lwp_14 _ (List.mem_of_getElem? (i := 23) rfl)
theorem lwm_297 : Cond.methodLink RX5 67 yJ9_floorMod_7cf53 ∈ wsL_law := lwp_14 _ (List.mem_of_getElem? (i := 22) rfl)
theorem lwm_298 : Cond.code yX5_round cX5_round 2 (some .int) ∈ wsL_law := lwp_14 _ (List.mem_of_getElem? (i := 21) rfl)
theorem lwm_299 : Cond.selects RX5 yX5_round yX5_round ∈ wsL_law := lwp_14 _ (List.mem_of_getElem? (i := 20) rfl)
theorem lwm_300 : Cond.instanceMethod yX5_round ∈ wsL_law := lwp_14 _ (List.mem_of_getElem? (i := 19) rfl)
theorem lwm_301 : Cond.methodLink RX5 73 yX5_round ∈ wsL_law := lwp_14 _ (List.mem_of_getElem? (i := 18) rfl)
theorem lwm_302 : Cond.code yX5_postBefore cX5_postBefore 3 (some .int) ∈ wsL_law := lwp_14 _ (List.mem_of_getElem? (i := 17) rfl)
theorem lwm_303 : Cond.selects RX5 yX5_postBefore yX5_postBefore ∈ wsL_law := lwp_14 _ (List.mem_of_getElem? (i := 16) rfl)
theorem lwm_304 : Cond.instanceMethod yX5_postBefore ∈ wsL_law := lwp_14 _ (List.mem_of_getElem? (i := 15) rfl)
theorem lwm_305 : Cond.methodLink RX5 76 yX5_postBefore ∈ wsL_law := lwp_14 _ (List.mem_of_getElem? (i := 14) rfl)
theorem lwm_306 : Cond.code yX5_isWarm cX5_isWarm 5 (some .boolean) ∈ wsL_law := lwp_15 _ (List.mem_of_getElem? (i := 16) rfl)
theorem lwm_307 : Cond.selects RX5 yX5_isWarm yX5_isWarm ∈ wsL_law := lwp_15 _ (List.mem_of_getElem? (i := 15) rfl)
theorem lwm_308 : Cond.instanceMethod yX5_isWarm ∈ wsL_law := lwp_15 _ (List.mem_of_getElem? (i := 14) rfl)
theorem lwm_309 : Cond.methodLink RX6 168 yX5_isWarm ∈ wsL_law := lwp_15 _ (List.mem_of_getElem? (i := 13) rfl)
theorem lwm_310 : Cond.methodLink RX1 57 yX1_isLit ∈ wsL_law := lwp_15 _ (List.mem_of_getElem? (i := 12) rfl)
theorem lwm_311 : Cond.code yX7_post cX7_post 3 (some .int) ∈ wsL_law := lwp_15 _ (List.mem_of_getElem? (i := 20) rfl)
theorem lwm_312 : Cond.code yX7_isLit cX7_isLit 3 (some .boolean) ∈ wsL_law := lwp_16 _ (List.mem_of_getElem? (i := 4) rfl)
theorem lwm_313 : Cond.selects RX7 yX7_isLit yX7_isLit ∈ wsL_law := lwp_16 _ (List.mem_of_getElem? (i := 3) rfl)
theorem lwm_314 : Cond.instanceMethod yX7_isLit ∈ wsL_law := lwp_16 _ (List.mem_of_getElem? (i := 2) rfl)
theorem lwm_315 : Cond.methodLink RX7 148 yX7_isLit ∈ wsL_law := lwp_16 _ (List.mem_of_getElem? (i := 1) rfl)
theorem lwm_316 : Cond.code yX7_isWarm cX7_isWarm 5 (some .boolean) ∈ wsL_law := lwp_16 _ (List.mem_of_getElem? (i := 0) rfl)
theorem lwm_317 : Cond.selects RX7 yX7_isWarm yX7_isWarm ∈ wsL_law := lwp_15 _ (List.mem_of_getElem? (i := 23) rfl)
theorem lwm_318 : Cond.instanceMethod yX7_isWarm ∈ wsL_law := lwp_15 _ (List.mem_of_getElem? (i := 22) rfl)
theorem lwm_319 : Cond.methodLink RX7 159 yX7_isWarm ∈ wsL_law := lwp_15 _ (List.mem_of_getElem? (i := 21) rfl)
theorem lwm_320 : Cond.code yX6_fill cX6_fill 4 (some .int) ∈ wsL_law := lwp_16 _ (List.mem_of_getElem? (i := 8) rfl)
theorem lwm_321 : Cond.selects RX4 yX4_put yX4_put ∈ wsL_law := lwp_16 _ (List.mem_of_getElem? (i := 11) rfl)
theorem lwm_322 : Cond.instanceMethod yX4_put ∈ wsL_law := lwp_16 _ (List.mem_of_getElem? (i := 10) rfl)
theorem lwm_323 : Cond.methodLink RX6 132 yX4_put ∈ wsL_law := lwp_16 _ (List.mem_of_getElem? (i := 9) rfl)
theorem lwm_324 : Cond.code yX1_copy cX1_copy 2 none ∈ wsL_law := lwp_16 _ (List.mem_of_getElem? (i := 20) rfl)
theorem lwm_325 : Cond.selects RX1 yX1_copy yX1_copy ∈ wsL_law := lwp_16 _ (List.mem_of_getElem? (i := 19) rfl)
theorem lwm_326 : Cond.instanceMethod yX1_copy ∈ wsL_law := lwp_16 _ (List.mem_of_getElem? (i := 18) rfl)
theorem lwm_327 : Cond.methodLink RX4 23 yX1_copy ∈ wsL_law := lwp_16 _ (List.mem_of_getElem? (i := 17) rfl)
theorem lwm_328 : Cond.code yX4_dropOldest cX4_dropOldest 3 none ∈ wsL_law := lwp_16 _ (List.mem_of_getElem? (i := 16) rfl)
theorem lwm_329 : Cond.selects RX4 yX4_dropOldest yX4_dropOldest ∈ wsL_law := lwp_16 _ (List.mem_of_getElem? (i := 15) rfl)
theorem lwm_330 : Cond.instanceMethod yX4_dropOldest ∈ wsL_law := lwp_16 _ (List.mem_of_getElem? (i := 14) rfl)
theorem lwm_331 : Cond.methodLink RX4 20 yX4_dropOldest ∈ wsL_law := lwp_16 _ (List.mem_of_getElem? (i := 13) rfl)
theorem lwm_332 : Cond.code yX4_put cX4_put 2 none ∈ wsL_law := lwp_16 _ (List.mem_of_getElem? (i := 12) rfl)
theorem lwm_333 : Cond.code yX7_fill cX7_fill 3 (some .int) ∈ wsL_law := lwp_17 _ (List.mem_of_getElem? (i := 0) rfl)
theorem lwm_334 : Cond.code yX7_copy cX7_copy 5 none ∈ wsL_law := lwp_17 _ (List.mem_of_getElem? (i := 7) rfl)
theorem lwm_335 : Cond.static yX7_copy ∈ wsL_law := lwp_17 _ (List.mem_of_getElem? (i := 6) rfl)
theorem lwm_336 : Cond.methodLink RX7 141 yX7_copy ∈ wsL_law := lwp_17 _ (List.mem_of_getElem? (i := 5) rfl)
theorem lwm_337 : Cond.code yX7_note cX7_note 2 none ∈ wsL_law := lwp_17 _ (List.mem_of_getElem? (i := 4) rfl)
theorem lwm_338 : Cond.selects RX7 yX7_note yX7_note ∈ wsL_law := lwp_17 _ (List.mem_of_getElem? (i := 3) rfl)
theorem lwm_339 : Cond.instanceMethod yX7_note ∈ wsL_law := lwp_17 _ (List.mem_of_getElem? (i := 2) rfl)
theorem lwm_340 : Cond.methodLink RX7 162 yX7_note ∈ wsL_law := lwp_17 _ (List.mem_of_getElem? (i := 1) rfl)
theorem lwm_341 : Cond.code yX6_light cX6_light 2 (some .int) ∈ wsL_law := lwp_17 _ (List.mem_of_getElem? (i := 11) rfl)
theorem lwm_342 : Cond.code yX1_litCount cX1_litCount 1 (some .int) ∈ wsL_law := lwp_17 _ (List.mem_of_getElem? (i := 15) rfl)
theorem lwm_343 : Cond.selects RX1 yX1_litCount yX1_litCount ∈ wsL_law := lwp_17 _ (List.mem_of_getElem? (i := 14) rfl)
theorem lwm_344 : Cond.instanceMethod yX1_litCount ∈ wsL_law := lwp_17 _ (List.mem_of_getElem? (i := 13) rfl)
theorem lwm_345 : Cond.methodLink RX6 139 yX1_litCount ∈ wsL_law := lwp_17 _ (List.mem_of_getElem? (i := 12) rfl)
theorem lwm_346 : Cond.constant RJ6 267 (252645135) ∈ wsL_law := lwp_17 _ (List.mem_of_getElem? (i := 22) rfl)
theorem lwm_347 : Cond.constant RJ6 266 (858993459) ∈ wsL_law := lwp_17 _ (List.mem_of_getElem? (i := 21) rfl)
theorem lwm_348 : Cond.constant RJ6 265 (1431655765) ∈ wsL_law := lwp_17 _ (List.mem_of_getElem? (i := 20) rfl)
theorem lwm_349 : Cond.code yJ6_bitCount_0f7a4 cJ6_bitCount_0f7a4 1 (some .int) ∈ wsL_law := lwp_17 _ (List.mem_of_getElem? (i := 19) rfl)
theorem lwm_350 : Cond.initialized RJ6 ∈ wsL_law := lwp_17 _ (List.mem_of_getElem? (i := 18) rfl)
theorem lwm_351 : Cond.static yJ6_bitCount_0f7a4 ∈ wsL_law := lwp_17 _ (List.mem_of_getElem? (i := 17) rfl)
theorem lwm_352 : Cond.methodLink RX1 52 yJ6_bitCount_0f7a4 ∈ wsL_law := lwp_17 _ (List.mem_of_getElem? (i := 16) rfl)
theorem lwm_353 : Cond.code yX7_light cX7_light 2 (some .int) ∈ wsL_law := lwp_18 _ (List.mem_of_getElem? (i := 2) rfl)
theorem lwm_354 : Cond.code yX7_litOf cX7_litOf 4 (some .int) ∈ wsL_law := lwp_18 _ (List.mem_of_getElem? (i := 6) rfl)
theorem lwm_355 : Cond.selects RX7 yX7_litOf yX7_litOf ∈ wsL_law := lwp_18 _ (List.mem_of_getElem? (i := 5) rfl)
theorem lwm_356 : Cond.instanceMethod yX7_litOf ∈ wsL_law := lwp_18 _ (List.mem_of_getElem? (i := 4) rfl)
theorem lwm_357 : Cond.methodLink RX7 165 yX7_litOf ∈ wsL_law := lwp_18 _ (List.mem_of_getElem? (i := 3) rfl)
theorem lwm_358 : Cond.code yX6_change cX6_change 5 (some .int) ∈ wsL_law := lwp_18 _ (List.mem_of_getElem? (i := 10) rfl)
theorem lwm_359 : Cond.code yX7_change cX7_change 4 (some .int) ∈ wsL_law := lwp_18 _ (List.mem_of_getElem? (i := 14) rfl)
theorem lwm_360 : Cond.code yX6_bells cX6_bells 2 (some .int) ∈ wsL_law := lwp_18 _ (List.mem_of_getElem? (i := 18) rfl)
theorem lwm_361 : Cond.code yX1_goOn cX1_goOn 9 none ∈ wsL_law := lwp_18 _ (List.mem_of_getElem? (i := 22) rfl)
theorem lwm_362 : Cond.selects RX1 yX1_goOn yX1_goOn ∈ wsL_law := lwp_18 _ (List.mem_of_getElem? (i := 21) rfl)
theorem lwm_363 : Cond.instanceMethod yX1_goOn ∈ wsL_law := lwp_18 _ (List.mem_of_getElem? (i := 20) rfl)
theorem lwm_364 : Cond.methodLink RX6 150 yX1_goOn ∈ wsL_law := lwp_18 _ (List.mem_of_getElem? (i := 19) rfl)
theorem lwm_365 : Cond.methodLink RX1 73 yX5_round ∈ wsL_law := lwp_19 _ (List.mem_of_getElem? (i := 0) rfl)
theorem lwm_366 : Cond.methodLink RX1 67 yX1_litFor ∈ wsL_law := lwp_18 _ (List.mem_of_getElem? (i := 23) rfl)
theorem lwm_367 : Cond.code yX7_bells cX7_bells 3 (some .int) ∈ wsL_law := lwp_19 _ (List.mem_of_getElem? (i := 4) rfl)
theorem lwm_368 : Cond.code yX7_ring cX7_ring 3 none ∈ wsL_law := lwp_19 _ (List.mem_of_getElem? (i := 8) rfl)
theorem lwm_369 : Cond.selects RX7 yX7_ring yX7_ring ∈ wsL_law := lwp_19 _ (List.mem_of_getElem? (i := 7) rfl)
theorem lwm_370 : Cond.instanceMethod yX7_ring ∈ wsL_law := lwp_19 _ (List.mem_of_getElem? (i := 6) rfl)
theorem lwm_371 : Cond.methodLink RX7 145 yX7_ring ∈ wsL_law := lwp_19 _ (List.mem_of_getElem? (i := 5) rfl)
theorem lwm_372 : Cond.code yX6_undo cX6_undo 1 (some .int) ∈ wsL_law := lwp_19 _ (List.mem_of_getElem? (i := 12) rfl)
theorem lwm_373 : Cond.code yX4_takeLast cX4_takeLast 3 (some .boolean) ∈ wsL_law := lwp_19 _ (List.mem_of_getElem? (i := 16) rfl)
theorem lwm_374 : Cond.selects RX4 yX4_takeLast yX4_takeLast ∈ wsL_law := lwp_19 _ (List.mem_of_getElem? (i := 15) rfl)
theorem lwm_375 : Cond.instanceMethod yX4_takeLast ∈ wsL_law := lwp_19 _ (List.mem_of_getElem? (i := 14) rfl)
theorem lwm_376 : Cond.methodLink RX6 154 yX4_takeLast ∈ wsL_law := lwp_19 _ (List.mem_of_getElem? (i := 13) rfl)
theorem lwm_377 : Cond.code yX7_undo cX7_undo 1 (some .int) ∈ wsL_law := lwp_19 _ (List.mem_of_getElem? (i := 20) rfl)
theorem lwm_378 : Cond.code yX7_warm cX7_warm 3 (some .int) ∈ wsL_law := lwp_20 _ (List.mem_of_getElem? (i := 1) rfl)
theorem lwm_379 : Cond.code yX7_triedIn cX7_triedIn 3 none ∈ wsL_law := lwp_20 _ (List.mem_of_getElem? (i := 5) rfl)
theorem lwm_380 : Cond.selects RX7 yX7_triedIn yX7_triedIn ∈ wsL_law := lwp_20 _ (List.mem_of_getElem? (i := 4) rfl)
theorem lwm_381 : Cond.instanceMethod yX7_triedIn ∈ wsL_law := lwp_20 _ (List.mem_of_getElem? (i := 3) rfl)
theorem lwm_382 : Cond.methodLink RX7 169 yX7_triedIn ∈ wsL_law := lwp_20 _ (List.mem_of_getElem? (i := 2) rfl)
theorem lwm_383 : Cond.code yX6_dark cX6_dark 4 (some .int) ∈ wsL_law := lwp_20 _ (List.mem_of_getElem? (i := 9) rfl)
theorem lwm_384 : Cond.code yX7_dark cX7_dark 2 (some .int) ∈ wsL_law := lwp_20 _ (List.mem_of_getElem? (i := 13) rfl)
theorem lwm_385 : Cond.code yX7_darkIn cX7_darkIn 4 (some .int) ∈ wsL_law := lwp_20 _ (List.mem_of_getElem? (i := 17) rfl)
theorem lwm_386 : Cond.selects RX7 yX7_darkIn yX7_darkIn ∈ wsL_law := lwp_20 _ (List.mem_of_getElem? (i := 16) rfl)
theorem lwm_387 : Cond.instanceMethod yX7_darkIn ∈ wsL_law := lwp_20 _ (List.mem_of_getElem? (i := 15) rfl)
theorem lwm_388 : Cond.methodLink RX7 173 yX7_darkIn ∈ wsL_law := lwp_20 _ (List.mem_of_getElem? (i := 14) rfl)
theorem lwm_389 : Cond.code yX6_walk cX6_walk 5 (some .int) ∈ wsL_law := lwp_20 _ (List.mem_of_getElem? (i := 21) rfl)
theorem lwm_390 : Cond.methodLink RX6 172 yX5_round ∈ wsL_law := lwp_20 _ (List.mem_of_getElem? (i := 22) rfl)
theorem lwm_391 : Cond.code yX7_walk cX7_walk 5 (some .int) ∈ wsL_law := lwp_21 _ (List.mem_of_getElem? (i := 2) rfl)
theorem lwm_392 : Cond.code yX6_seen cX6_seen 4 (some .int) ∈ wsL_law := lwp_21 _ (List.mem_of_getElem? (i := 6) rfl)
theorem lwm_393 : Cond.methodLink RX0 30 yX3_set ∈ wsL_law := lwp_21 _ (List.mem_of_getElem? (i := 11) rfl)
theorem lwm_394 : Cond.code yX0_add cX0_add 4 none ∈ wsL_law := lwp_21 _ (List.mem_of_getElem? (i := 10) rfl)
theorem lwm_395 : Cond.selects RX0 yX0_add yX0_add ∈ wsL_law := lwp_21 _ (List.mem_of_getElem? (i := 9) rfl)
theorem lwm_396 : Cond.instanceMethod yX0_add ∈ wsL_law := lwp_21 _ (List.mem_of_getElem? (i := 8) rfl)
theorem lwm_397 : Cond.methodLink RX6 176 yX0_add ∈ wsL_law := lwp_21 _ (List.mem_of_getElem? (i := 7) rfl)
theorem lwm_398 : Cond.code yX7_seen cX7_seen 4 (some .int) ∈ wsL_law := lwp_21 _ (List.mem_of_getElem? (i := 15) rfl)
theorem lwm_399 : Cond.code yX6_forget cX6_forget 2 (some .int) ∈ wsL_law := lwp_21 _ (List.mem_of_getElem? (i := 19) rfl)
theorem lwm_400 : Cond.code yX7_forget cX7_forget 2 (some .int) ∈ wsL_law := lwp_21 _ (List.mem_of_getElem? (i := 23) rfl)
theorem lwm_401 : Cond.code yX6_fits cX6_fits 1 (some .int) ∈ wsL_law := lwp_22 _ (List.mem_of_getElem? (i := 3) rfl)
theorem lwm_402 : Cond.selects RX5 yX5_reckonLit yX5_reckonLit ∈ wsL_law := lwp_22 _ (List.mem_of_getElem? (i := 14) rfl)
theorem lwm_403 : Cond.instanceMethod yX5_reckonLit ∈ wsL_law := lwp_22 _ (List.mem_of_getElem? (i := 13) rfl)
theorem lwm_404 : Cond.methodLink RX6 187 yX5_reckonLit ∈ wsL_law := lwp_22 _ (List.mem_of_getElem? (i := 12) rfl)
theorem lwm_405 : Cond.code yX5_withOil cX5_withOil 3 (some .int) ∈ wsL_law := lwp_22 _ (List.mem_of_getElem? (i := 11) rfl)
theorem lwm_406 : Cond.selects RX5 yX5_withOil yX5_withOil ∈ wsL_law := lwp_22 _ (List.mem_of_getElem? (i := 10) rfl)
theorem lwm_407 : Cond.instanceMethod yX5_withOil ∈ wsL_law := lwp_22 _ (List.mem_of_getElem? (i := 9) rfl)
theorem lwm_408 : Cond.methodLink RX6 234 yX5_withOil ∈ wsL_law := lwp_22 _ (List.mem_of_getElem? (i := 8) rfl)
theorem lwm_409 : Cond.code yX6_setsWith cX6_setsWith 5 (some .int) ∈ wsL_law := lwp_22 _ (List.mem_of_getElem? (i := 7) rfl)
theorem lwm_410 : Cond.selects RX6 yX6_setsWith yX6_setsWith ∈ wsL_law := lwp_22 _ (List.mem_of_getElem? (i := 6) rfl)
theorem lwm_411 : Cond.instanceMethod yX6_setsWith ∈ wsL_law := lwp_22 _ (List.mem_of_getElem? (i := 5) rfl)
theorem lwm_412 : Cond.methodLink RX6 180 yX6_setsWith ∈ wsL_law := lwp_22 _ (List.mem_of_getElem? (i := 4) rfl)
theorem lwm_413 : Cond.methodLink RX5 82 yX5_reckonDraughts ∈ wsL_law := lwp_22 _ (List.mem_of_getElem? (i := 16) rfl)
theorem lwm_414 : Cond.code yX5_reckonLit cX5_reckonLit 5 none ∈ wsL_law := lwp_22 _ (List.mem_of_getElem? (i := 15) rfl)
theorem lwm_415 : Cond.methodLink RX0 47 yX5_isWarm ∈ wsL_law := lwp_22 _ (List.mem_of_getElem? (i := 23) rfl)
theorem lwm_416 : Cond.methodLink RX0 38 yX5_postBefore ∈ wsL_law := lwp_22 _ (List.mem_of_getElem? (i := 22) rfl)
theorem lwm_417 : Cond.methodLink RX0 34 yX3_get ∈ wsL_law := lwp_22 _ (List.mem_of_getElem? (i := 21) rfl)
theorem lwm_418 : Cond.code yX0_agrees cX0_agrees 9 (some .boolean) ∈ wsL_law := lwp_22 _ (List.mem_of_getElem? (i := 20) rfl)
theorem lwm_419 : Cond.selects RX0 yX0_agrees yX0_agrees ∈ wsL_law := lwp_22 _ (List.mem_of_getElem? (i := 19) rfl)
theorem lwm_420 : Cond.instanceMethod yX0_agrees ∈ wsL_law := lwp_22 _ (List.mem_of_getElem? (i := 18) rfl)
theorem lwm_421 : Cond.methodLink RX6 193 yX0_agrees ∈ wsL_law := lwp_22 _ (List.mem_of_getElem? (i := 17) rfl)
theorem lwm_422 : Cond.code yX7_fits cX7_fits 1 (some .int) ∈ wsL_law := lwp_23 _ (List.mem_of_getElem? (i := 3) rfl)
theorem lwm_423 : Cond.code yX7_isAsSeenBy cX7_isAsSeenBy 3 (some .boolean) ∈ wsL_law := lwp_23 _ (List.mem_of_getElem? (i := 18) rfl)
theorem lwm_424 : Cond.selects RX7 yX7_isAsSeenBy yX7_isAsSeenBy ∈ wsL_law := lwp_23 _ (List.mem_of_getElem? (i := 17) rfl)
theorem lwm_425 : Cond.instanceMethod yX7_isAsSeenBy ∈ wsL_law := lwp_23 _ (List.mem_of_getElem? (i := 16) rfl)
theorem lwm_426 : Cond.methodLink RX7 186 yX7_isAsSeenBy ∈ wsL_law := lwp_23 _ (List.mem_of_getElem? (i := 15) rfl)
theorem lwm_427 : Cond.code yX7_has cX7_has 2 (some .boolean) ∈ wsL_law := lwp_23 _ (List.mem_of_getElem? (i := 14) rfl)
theorem lwm_428 : Cond.static yX7_has ∈ wsL_law := lwp_23 _ (List.mem_of_getElem? (i := 13) rfl)
theorem lwm_429 : Cond.methodLink RX7 182 yX7_has ∈ wsL_law := lwp_23 _ (List.mem_of_getElem? (i := 12) rfl)
theorem lwm_430 : Cond.code yX7_oiled cX7_oiled 3 (some .int) ∈ wsL_law := lwp_23 _ (List.mem_of_getElem? (i := 11) rfl)
theorem lwm_431 : Cond.selects RX7 yX7_oiled yX7_oiled ∈ wsL_law := lwp_23 _ (List.mem_of_getElem? (i := 10) rfl)
theorem lwm_432 : Cond.instanceMethod yX7_oiled ∈ wsL_law := lwp_23 _ (List.mem_of_getElem? (i := 9) rfl)
theorem lwm_433 : Cond.methodLink RX7 179 yX7_oiled ∈ wsL_law := lwp_23 _ (List.mem_of_getElem? (i := 8) rfl)
theorem lwm_434 : Cond.code yX7_fitsWith cX7_fitsWith 5 (some .int) ∈ wsL_law := lwp_23 _ (List.mem_of_getElem? (i := 7) rfl)
theorem lwm_435 : Cond.selects RX7 yX7_fitsWith yX7_fitsWith ∈ wsL_law := lwp_23 _ (List.mem_of_getElem? (i := 6) rfl)
theorem lwm_436 : Cond.instanceMethod yX7_fitsWith ∈ wsL_law := lwp_23 _ (List.mem_of_getElem? (i := 5) rfl)
theorem lwm_437 : Cond.methodLink RX7 189 yX7_fitsWith ∈ wsL_law := lwp_23 _ (List.mem_of_getElem? (i := 4) rfl)
theorem lwm_438 : Cond.code yX7_isAsSeen cX7_isAsSeen 4 (some .boolean) ∈ wsL_law := lwp_23 _ (List.mem_of_getElem? (i := 22) rfl)
theorem lwm_439 : Cond.selects RX7 yX7_isAsSeen yX7_isAsSeen ∈ wsL_law := lwp_23 _ (List.mem_of_getElem? (i := 21) rfl)
theorem lwm_440 : Cond.instanceMethod yX7_isAsSeen ∈ wsL_law := lwp_23 _ (List.mem_of_getElem? (i := 20) rfl)
theorem lwm_441 : Cond.methodLink RX7 176 yX7_isAsSeen ∈ wsL_law := lwp_23 _ (List.mem_of_getElem? (i := 19) rfl)
theorem lwm_442 : Cond.code yX6_odds cX6_odds 6 (some .int) ∈ wsL_law := lwp_24 _ (List.mem_of_getElem? (i := 2) rfl)
theorem lwm_443 : Cond.code yX6_commonDivisor cX6_commonDivisor 6 (some .int) ∈ wsL_law := lwp_24 _ (List.mem_of_getElem? (i := 5) rfl)
theorem lwm_444 : Cond.static yX6_commonDivisor ∈ wsL_law := lwp_24 _ (List.mem_of_getElem? (i := 4) rfl)
theorem lwm_445 : Cond.methodLink RX6 183 yX6_commonDivisor ∈ wsL_law := lwp_24 _ (List.mem_of_getElem? (i := 3) rfl)
theorem lwm_446 : Cond.code yX7_odds cX7_odds 8 (some .int) ∈ wsL_law := lwp_24 _ (List.mem_of_getElem? (i := 9) rfl)
theorem lwm_447 : Cond.code yX6_letOut cX6_letOut 5 (some .int) ∈ wsL_law := lwp_24 _ (List.mem_of_getElem? (i := 13) rfl)
theorem lwm_448 : Cond.selects RX6 yX6_fitsWithDraught yX6_fitsWithDraught ∈ wsL_law := lwp_24 _ (List.mem_of_getElem? (i := 16) rfl)
theorem lwm_449 : Cond.instanceMethod yX6_fitsWithDraught ∈ wsL_law := lwp_24 _ (List.mem_of_getElem? (i := 15) rfl)
theorem lwm_450 : Cond.methodLink RX6 190 yX6_fitsWithDraught ∈ wsL_law := lwp_24 _ (List.mem_of_getElem? (i := 14) rfl)
theorem lwm_451 : Cond.methodLink RX6 223 Lib.Math.min.name ∈ wsL_law := lwp_24 _ (List.mem_of_getElem? (i := 18) rfl)
theorem lwm_452 : Cond.code yX6_fitsWithDraught cX6_fitsWithDraught 6 (some .boolean) ∈ wsL_law := lwp_24 _ (List.mem_of_getElem? (i := 17) rfl)
theorem lwm_453 : Cond.code yX7_letOut cX7_letOut 6 (some .int) ∈ wsL_law := lwp_24 _ (List.mem_of_getElem? (i := 22) rfl)
theorem lwm_454 : Cond.code yX6_coldHands cX6_coldHands 3 (some .int) ∈ wsL_law := lwp_25 _ (List.mem_of_getElem? (i := 2) rfl)
theorem lwm_455 : Cond.code yX7_coldHands cX7_coldHands 3 (some .int) ∈ wsL_law := lwp_25 _ (List.mem_of_getElem? (i := 6) rfl)
theorem lwm_456 : Cond.code yX6_keepLit cX6_keepLit 10 (some .int) ∈ wsL_law := lwp_25 _ (List.mem_of_getElem? (i := 10) rfl)
theorem lwm_457 : Cond.code yX6_isSet cX6_isSet 2 (some .boolean) ∈ wsL_law := lwp_25 _ (List.mem_of_getElem? (i := 14) rfl)
theorem lwm_458 : Cond.selects RX6 yX6_isSet yX6_isSet ∈ wsL_law := lwp_25 _ (List.mem_of_getElem? (i := 13) rfl)
theorem lwm_459 : Cond.instanceMethod yX6_isSet ∈ wsL_law := lwp_25 _ (List.mem_of_getElem? (i := 12) rfl)
theorem lwm_460 : Cond.methodLink RX6 197 yX6_isSet ∈ wsL_law := lwp_25 _ (List.mem_of_getElem? (i := 11) rfl)
theorem lwm_461 : Cond.selects RX6 yX6_waysToFinish yX6_waysToFinish ∈ wsL_law := lwp_25 _ (List.mem_of_getElem? (i := 17) rfl)
theorem lwm_462 : Cond.instanceMethod yX6_waysToFinish ∈ wsL_law := lwp_25 _ (List.mem_of_getElem? (i := 16) rfl)
theorem lwm_463 : Cond.methodLink RX6 200 yX6_waysToFinish ∈ wsL_law := lwp_25 _ (List.mem_of_getElem? (i := 15) rfl)
theorem lwm_464 : Cond.code yX6_firstThatFinishes cX6_firstThatFinishes 9 (some .int) ∈ wsL_law := lwp_26 _ (List.mem_of_getElem? (i := 3) rfl)
theorem lwm_465 : Cond.selects RX6 yX6_firstThatFinishes yX6_firstThatFinishes ∈ wsL_law := lwp_26 _ (List.mem_of_getElem? (i := 2) rfl)
theorem lwm_466 : Cond.instanceMethod yX6_firstThatFinishes ∈ wsL_law := lwp_26 _ (List.mem_of_getElem? (i := 1) rfl)
theorem lwm_467 : Cond.methodLink RX6 208 yX6_firstThatFinishes ∈ wsL_law := lwp_26 _ (List.mem_of_getElem? (i := 0) rfl)
theorem lwm_468 : Cond.code yX5_bellsNeeded cX5_bellsNeeded 5 (some .int) ∈ wsL_law := lwp_25 _ (List.mem_of_getElem? (i := 23) rfl)
theorem lwm_469 : Cond.selects RX5 yX5_bellsNeeded yX5_bellsNeeded ∈ wsL_law := lwp_25 _ (List.mem_of_getElem? (i := 22) rfl)
theorem lwm_470 : Cond.instanceMethod yX5_bellsNeeded ∈ wsL_law := lwp_25 _ (List.mem_of_getElem? (i := 21) rfl)
theorem lwm_471 : Cond.methodLink RX6 204 yX5_bellsNeeded ∈ wsL_law := lwp_25 _ (List.mem_of_getElem? (i := 20) rfl)
theorem lwm_472 : Cond.methodLink RX6 237 yJ6_bitCount_0f7a4 ∈ wsL_law := lwp_25 _ (List.mem_of_getElem? (i := 19) rfl)
theorem lwm_473 : Cond.code yX6_waysToFinish cX6_waysToFinish 8 (some .long) ∈ wsL_law := lwp_25 _ (List.mem_of_getElem? (i := 18) rfl)
theorem lwm_474 : Cond.code yX7_keepLit cX7_keepLit 8 (some .int) ∈ wsL_law := lwp_26 _ (List.mem_of_getElem? (i := 7) rfl)
theorem lwm_475 : Cond.code yX7_isKept cX7_isKept 5 (some .boolean) ∈ wsL_law := lwp_26 _ (List.mem_of_getElem? (i := 19) rfl)
theorem lwm_476 : Cond.selects RX7 yX7_isKept yX7_isKept ∈ wsL_law := lwp_26 _ (List.mem_of_getElem? (i := 18) rfl)
theorem lwm_477 : Cond.instanceMethod yX7_isKept ∈ wsL_law := lwp_26 _ (List.mem_of_getElem? (i := 17) rfl)
theorem lwm_478 : Cond.methodLink RX7 193 yX7_isKept ∈ wsL_law := lwp_26 _ (List.mem_of_getElem? (i := 16) rfl)
theorem lwm_479 : Cond.code yX7_firstWay cX7_firstWay 8 (some .int) ∈ wsL_law := lwp_26 _ (List.mem_of_getElem? (i := 15) rfl)
theorem lwm_480 : Cond.selects RX7 yX7_firstWay yX7_firstWay ∈ wsL_law := lwp_26 _ (List.mem_of_getElem? (i := 14) rfl)
theorem lwm_481 : Cond.instanceMethod yX7_firstWay ∈ wsL_law := lwp_26 _ (List.mem_of_getElem? (i := 13) rfl)
theorem lwm_482 : Cond.methodLink RX7 199 yX7_firstWay ∈ wsL_law := lwp_26 _ (List.mem_of_getElem? (i := 12) rfl)
theorem lwm_483 : Cond.code yX7_isSet cX7_isSet 2 (some .boolean) ∈ wsL_law := lwp_26 _ (List.mem_of_getElem? (i := 11) rfl)
theorem lwm_484 : Cond.selects RX7 yX7_isSet yX7_isSet ∈ wsL_law := lwp_26 _ (List.mem_of_getElem? (i := 10) rfl)
theorem lwm_485 : Cond.instanceMethod yX7_isSet ∈ wsL_law := lwp_26 _ (List.mem_of_getElem? (i := 9) rfl)
theorem lwm_486 : Cond.methodLink RX7 196 yX7_isSet ∈ wsL_law := lwp_26 _ (List.mem_of_getElem? (i := 8) rfl)
theorem lwm_487 : Cond.code yX6_oil cX6_oil 7 (some .int) ∈ wsL_law := lwp_26 _ (List.mem_of_getElem? (i := 23) rfl)
theorem lwm_488 : Cond.code Lib.Math.max.name Lib.Math.max.code 2 (some .int) ∈ wsL_law := lwp_27 _ (List.mem_of_getElem? (i := 2) rfl)
theorem lwm_489 : Cond.static Lib.Math.max.name ∈ wsL_law := lwp_27 _ (List.mem_of_getElem? (i := 1) rfl)
theorem lwm_490 : Cond.methodLink RX6 212 Lib.Math.max.name ∈ wsL_law := lwp_27 _ (List.mem_of_getElem? (i := 0) rfl)
theorem lwm_491 : Cond.code yX7_oil cX7_oil 5 (some .int) ∈ wsL_law := lwp_27 _ (List.mem_of_getElem? (i := 6) rfl)
theorem lwm_492 : Cond.code yX6_night cX6_night 7 (some .int) ∈ wsL_law := lwp_27 _ (List.mem_of_getElem? (i := 10) rfl)
theorem lwm_493 : Cond.constantLong RX6 244 (6151) ∈ wsL_law := lwp_27 _ (List.mem_of_getElem? (i := 15) rfl)
theorem lwm_494 : Cond.constantLong RX6 242 (7919) ∈ wsL_law := lwp_27 _ (List.mem_of_getElem? (i := 14) rfl)
theorem lwm_495 : Cond.code yX6_drawOf cX6_drawOf 4 (some .int) ∈ wsL_law := lwp_27 _ (List.mem_of_getElem? (i := 13) rfl)
theorem lwm_496 : Cond.static yX6_drawOf ∈ wsL_law := lwp_27 _ (List.mem_of_getElem? (i := 12) rfl)
theorem lwm_497 : Cond.methodLink RX6 217 yX6_drawOf ∈ wsL_law := lwp_27 _ (List.mem_of_getElem? (i := 11) rfl)
theorem lwm_498 : Cond.methodLink RX6 226 yX1_copy ∈ wsL_law := lwp_27 _ (List.mem_of_getElem? (i := 17) rfl)
theorem lwm_499 : Cond.constantLong RX6 246 (65521) ∈ wsL_law := lwp_27 _ (List.mem_of_getElem? (i := 16) rfl)
theorem lwm_500 : Cond.methodLink RX6 229 yX1_oilInAll ∈ wsL_law := lwp_27 _ (List.mem_of_getElem? (i := 18) rfl)
theorem lwm_501 : Cond.code yX1_oilInAll cX1_oilInAll 3 (some .int) ∈ wsL_law := lwp_27 _ (List.mem_of_getElem? (i := 21) rfl)
theorem lwm_502 : Cond.selects RX1 yX1_oilInAll yX1_oilInAll ∈ wsL_law := lwp_27 _ (List.mem_of_getElem? (i := 20) rfl)
theorem lwm_503 : Cond.instanceMethod yX1_oilInAll ∈ wsL_law := lwp_27 _ (List.mem_of_getElem? (i := 19) rfl)
theorem lwm_504 : Cond.code yX7_night cX7_night 8 (some .int) ∈ wsL_law := lwp_28 _ (List.mem_of_getElem? (i := 1) rfl)
theorem lwm_505 : Cond.constantLong RX7 207 (65521) ∈ wsL_law := lwp_28 _ (List.mem_of_getElem? (i := 4) rfl)
theorem lwm_506 : Cond.constantLong RX7 205 (6151) ∈ wsL_law := lwp_28 _ (List.mem_of_getElem? (i := 3) rfl)
theorem lwm_507 : Cond.constantLong RX7 203 (7919) ∈ wsL_law := lwp_28 _ (List.mem_of_getElem? (i := 2) rfl)
theorem lwm_508 : Cond.code yX7_oilOf cX7_oilOf 4 (some .int) ∈ wsL_law := lwp_28 _ (List.mem_of_getElem? (i := 8) rfl)
theorem lwm_509 : Cond.selects RX7 yX7_oilOf yX7_oilOf ∈ wsL_law := lwp_28 _ (List.mem_of_getElem? (i := 7) rfl)
theorem lwm_510 : Cond.instanceMethod yX7_oilOf ∈ wsL_law := lwp_28 _ (List.mem_of_getElem? (i := 6) rfl)
theorem lwm_511 : Cond.methodLink RX7 209 yX7_oilOf ∈ wsL_law := lwp_28 _ (List.mem_of_getElem? (i := 5) rfl)
theorem lwm_512 : Cond.code yX6_keep cX6_keep 1 (some .int) ∈ wsL_law := lwp_28 _ (List.mem_of_getElem? (i := 12) rfl)
theorem lwm_513 : Cond.code yX7_keep cX7_keep 1 (some .int) ∈ wsL_law := lwp_28 _ (List.mem_of_getElem? (i := 16) rfl)
theorem lwm_514 : Cond.code yX6_back cX6_back 1 (some .int) ∈ wsL_law := lwp_28 _ (List.mem_of_getElem? (i := 20) rfl)
theorem lwm_515 : Cond.code yX7_back cX7_back 1 (some .int) ∈ wsL_law := lwp_29 _ (List.mem_of_getElem? (i := 0) rfl)
theorem lwm_516 : Cond.code yX6_count cX6_count 2 (some .int) ∈ wsL_law := lwp_29 _ (List.mem_of_getElem? (i := 4) rfl)
theorem lwm_517 : Cond.code yX7_count cX7_count 2 (some .int) ∈ wsL_law := lwp_29 _ (List.mem_of_getElem? (i := 8) rfl)
theorem lwm_518 : Cond.selects RX6 yX6_write yX6_write ∈ wsL_law := lwp_7 _ (List.mem_of_getElem? (i := 8) rfl)
theorem lwm_519 : Cond.instanceMethod yX6_write ∈ wsL_law := lwp_7 _ (List.mem_of_getElem? (i := 7) rfl)
theorem lwm_520 : Cond.methodLink RL 15 yX6_write ∈ wsL_law := lwp_7 _ (List.mem_of_getElem? (i := 6) rfl)
theorem lwm_521 : Cond.selects RX7 yX7_write yX7_write ∈ wsL_law := lwp_7 _ (List.mem_of_getElem? (i := 14) rfl)
theorem lwm_522 : Cond.instanceMethod yX7_write ∈ wsL_law := lwp_7 _ (List.mem_of_getElem? (i := 13) rfl)
theorem lwm_523 : Cond.methodLink RL 19 yX7_write ∈ wsL_law := lwp_7 _ (List.mem_of_getElem? (i := 12) rfl)
theorem lwm_524 : Cond.selects RX6 yX6_wipe yX6_wipe ∈ wsL_law := lwp_7 _ (List.mem_of_getElem? (i := 23) rfl)
theorem lwm_525 : Cond.instanceMethod yX6_wipe ∈ wsL_law := lwp_7 _ (List.mem_of_getElem? (i := 22) rfl)
theorem lwm_526 : Cond.methodLink RL 20 yX6_wipe ∈ wsL_law := lwp_7 _ (List.mem_of_getElem? (i := 21) rfl)
theorem lwm_527 : Cond.selects RX7 yX7_wipe yX7_wipe ∈ wsL_law := lwp_8 _ (List.mem_of_getElem? (i := 3) rfl)
theorem lwm_528 : Cond.instanceMethod yX7_wipe ∈ wsL_law := lwp_8 _ (List.mem_of_getElem? (i := 2) rfl)
theorem lwm_529 : Cond.methodLink RL 24 yX7_wipe ∈ wsL_law := lwp_8 _ (List.mem_of_getElem? (i := 1) rfl)
theorem lwm_530 : Cond.selects RX6 yX6_fault yX6_fault ∈ wsL_law := lwp_8 _ (List.mem_of_getElem? (i := 7) rfl)
theorem lwm_531 : Cond.instanceMethod yX6_fault ∈ wsL_law := lwp_8 _ (List.mem_of_getElem? (i := 6) rfl)
theorem lwm_532 : Cond.methodLink RL 25 yX6_fault ∈ wsL_law := lwp_8 _ (List.mem_of_getElem? (i := 5) rfl)
theorem lwm_533 : Cond.selects RX7 yX7_fault yX7_fault ∈ wsL_law := lwp_10 _ (List.mem_of_getElem? (i := 6) rfl)
theorem lwm_534 : Cond.instanceMethod yX7_fault ∈ wsL_law := lwp_10 _ (List.mem_of_getElem? (i := 5) rfl)
theorem lwm_535 : Cond.methodLink RL 28 yX7_fault ∈ wsL_law := lwp_10 _ (List.mem_of_getElem? (i := 4) rfl)
theorem lwm_536 : Cond.selects RX6 yX6_lay yX6_lay ∈ wsL_law := lwp_11 _ (List.mem_of_getElem? (i := 8) rfl)
theorem lwm_537 : Cond.instanceMethod yX6_lay ∈ wsL_law := lwp_11 _ (List.mem_of_getElem? (i := 7) rfl)
theorem lwm_538 : Cond.methodLink RL 29 yX6_lay ∈ wsL_law := lwp_11 _ (List.mem_of_getElem? (i := 6) rfl)
theorem lwm_539 : Cond.selects RX7 yX7_lay yX7_lay ∈ wsL_law := lwp_12 _ (List.mem_of_getElem? (i := 3) rfl)
theorem lwm_540 : Cond.instanceMethod yX7_lay ∈ wsL_law := lwp_12 _ (List.mem_of_getElem? (i := 2) rfl)
theorem lwm_541 : Cond.methodLink RL 32 yX7_lay ∈ wsL_law := lwp_12 _ (List.mem_of_getElem? (i := 1) rfl)
theorem lwm_542 : Cond.selects RX6 yX6_lantern yX6_lantern ∈ wsL_law := lwp_12 _ (List.mem_of_getElem? (i := 12) rfl)
theorem lwm_543 : Cond.instanceMethod yX6_lantern ∈ wsL_law := lwp_12 _ (List.mem_of_getElem? (i := 11) rfl)
theorem lwm_544 : Cond.methodLink RL 33 yX6_lantern ∈ wsL_law := lwp_12 _ (List.mem_of_getElem? (i := 10) rfl)
theorem lwm_545 : Cond.selects RX7 yX7_lantern yX7_lantern ∈ wsL_law := lwp_13 _ (List.mem_of_getElem? (i := 5) rfl)
theorem lwm_546 : Cond.instanceMethod yX7_lantern ∈ wsL_law := lwp_13 _ (List.mem_of_getElem? (i := 4) rfl)
theorem lwm_547 : Cond.methodLink RL 37 yX7_lantern ∈ wsL_law := lwp_13 _ (List.mem_of_getElem? (i := 3) rfl)
theorem lwm_548 : Cond.selects RX6 yX6_post yX6_post ∈ wsL_law := lwp_13 _ (List.mem_of_getElem? (i := 16) rfl)
theorem lwm_549 : Cond.instanceMethod yX6_post ∈ wsL_law := lwp_13 _ (List.mem_of_getElem? (i := 15) rfl)
theorem lwm_550 : Cond.methodLink RL 38 yX6_post ∈ wsL_law := lwp_13 _ (List.mem_of_getElem? (i := 14) rfl)
theorem lwm_551 : Cond.selects RX7 yX7_post yX7_post ∈ wsL_law := lwp_15 _ (List.mem_of_getElem? (i := 19) rfl)
theorem lwm_552 : Cond.instanceMethod yX7_post ∈ wsL_law := lwp_15 _ (List.mem_of_getElem? (i := 18) rfl)
theorem lwm_553 : Cond.methodLink RL 41 yX7_post ∈ wsL_law := lwp_15 _ (List.mem_of_getElem? (i := 17) rfl)
theorem lwm_554 : Cond.selects RX6 yX6_fill yX6_fill ∈ wsL_law := lwp_16 _ (List.mem_of_getElem? (i := 7) rfl)
theorem lwm_555 : Cond.instanceMethod yX6_fill ∈ wsL_law := lwp_16 _ (List.mem_of_getElem? (i := 6) rfl)
theorem lwm_556 : Cond.methodLink RL 42 yX6_fill ∈ wsL_law := lwp_16 _ (List.mem_of_getElem? (i := 5) rfl)
theorem lwm_557 : Cond.selects RX7 yX7_fill yX7_fill ∈ wsL_law := lwp_16 _ (List.mem_of_getElem? (i := 23) rfl)
theorem lwm_558 : Cond.instanceMethod yX7_fill ∈ wsL_law := lwp_16 _ (List.mem_of_getElem? (i := 22) rfl)
theorem lwm_559 : Cond.methodLink RL 45 yX7_fill ∈ wsL_law := lwp_16 _ (List.mem_of_getElem? (i := 21) rfl)
theorem lwm_560 : Cond.selects RX6 yX6_light yX6_light ∈ wsL_law := lwp_17 _ (List.mem_of_getElem? (i := 10) rfl)
theorem lwm_561 : Cond.instanceMethod yX6_light ∈ wsL_law := lwp_17 _ (List.mem_of_getElem? (i := 9) rfl)
theorem lwm_562 : Cond.methodLink RL 46 yX6_light ∈ wsL_law := lwp_17 _ (List.mem_of_getElem? (i := 8) rfl)
theorem lwm_563 : Cond.selects RX7 yX7_light yX7_light ∈ wsL_law := lwp_18 _ (List.mem_of_getElem? (i := 1) rfl)
theorem lwm_564 : Cond.instanceMethod yX7_light ∈ wsL_law := lwp_18 _ (List.mem_of_getElem? (i := 0) rfl)
theorem lwm_565 : Cond.methodLink RL 50 yX7_light ∈ wsL_law := lwp_17 _ (List.mem_of_getElem? (i := 23) rfl)
theorem lwm_566 : Cond.selects RX6 yX6_change yX6_change ∈ wsL_law := lwp_18 _ (List.mem_of_getElem? (i := 9) rfl)
theorem lwm_567 : Cond.instanceMethod yX6_change ∈ wsL_law := lwp_18 _ (List.mem_of_getElem? (i := 8) rfl)
theorem lwm_568 : Cond.methodLink RL 51 yX6_change ∈ wsL_law := lwp_18 _ (List.mem_of_getElem? (i := 7) rfl)
theorem lwm_569 : Cond.selects RX7 yX7_change yX7_change ∈ wsL_law := lwp_18 _ (List.mem_of_getElem? (i := 13) rfl)
theorem lwm_570 : Cond.instanceMethod yX7_change ∈ wsL_law := lwp_18 _ (List.mem_of_getElem? (i := 12) rfl)
theorem lwm_571 : Cond.methodLink RL 54 yX7_change ∈ wsL_law := lwp_18 _ (List.mem_of_getElem? (i := 11) rfl)
theorem lwm_572 : Cond.selects RX6 yX6_bells yX6_bells ∈ wsL_law := lwp_18 _ (List.mem_of_getElem? (i := 17) rfl)
theorem lwm_573 : Cond.instanceMethod yX6_bells ∈ wsL_law := lwp_18 _ (List.mem_of_getElem? (i := 16) rfl)
theorem lwm_574 : Cond.methodLink RL 55 yX6_bells ∈ wsL_law := lwp_18 _ (List.mem_of_getElem? (i := 15) rfl)
theorem lwm_575 : Cond.selects RX7 yX7_bells yX7_bells ∈ wsL_law := lwp_19 _ (List.mem_of_getElem? (i := 3) rfl)
theorem lwm_576 : Cond.instanceMethod yX7_bells ∈ wsL_law := lwp_19 _ (List.mem_of_getElem? (i := 2) rfl)
theorem lwm_577 : Cond.methodLink RL 58 yX7_bells ∈ wsL_law := lwp_19 _ (List.mem_of_getElem? (i := 1) rfl)
theorem lwm_578 : Cond.selects RX6 yX6_undo yX6_undo ∈ wsL_law := lwp_19 _ (List.mem_of_getElem? (i := 11) rfl)
theorem lwm_579 : Cond.instanceMethod yX6_undo ∈ wsL_law := lwp_19 _ (List.mem_of_getElem? (i := 10) rfl)
theorem lwm_580 : Cond.methodLink RL 59 yX6_undo ∈ wsL_law := lwp_19 _ (List.mem_of_getElem? (i := 9) rfl)
theorem lwm_581 : Cond.selects RX7 yX7_undo yX7_undo ∈ wsL_law := lwp_19 _ (List.mem_of_getElem? (i := 19) rfl)
theorem lwm_582 : Cond.instanceMethod yX7_undo ∈ wsL_law := lwp_19 _ (List.mem_of_getElem? (i := 18) rfl)
theorem lwm_583 : Cond.methodLink RL 62 yX7_undo ∈ wsL_law := lwp_19 _ (List.mem_of_getElem? (i := 17) rfl)
theorem lwm_584 : Cond.methodLink RL 63 yX6_warm ∈ wsL_law := lwp_19 _ (List.mem_of_getElem? (i := 21) rfl)
theorem lwm_585 : Cond.selects RX7 yX7_warm yX7_warm ∈ wsL_law := lwp_20 _ (List.mem_of_getElem? (i := 0) rfl)
theorem lwm_586 : Cond.instanceMethod yX7_warm ∈ wsL_law := lwp_19 _ (List.mem_of_getElem? (i := 23) rfl)
theorem lwm_587 : Cond.methodLink RL 66 yX7_warm ∈ wsL_law := lwp_19 _ (List.mem_of_getElem? (i := 22) rfl)
theorem lwm_588 : Cond.selects RX6 yX6_dark yX6_dark ∈ wsL_law := lwp_20 _ (List.mem_of_getElem? (i := 8) rfl)
theorem lwm_589 : Cond.instanceMethod yX6_dark ∈ wsL_law := lwp_20 _ (List.mem_of_getElem? (i := 7) rfl)
theorem lwm_590 : Cond.methodLink RL 67 yX6_dark ∈ wsL_law := lwp_20 _ (List.mem_of_getElem? (i := 6) rfl)
theorem lwm_591 : Cond.selects RX7 yX7_dark yX7_dark ∈ wsL_law := lwp_20 _ (List.mem_of_getElem? (i := 12) rfl)
theorem lwm_592 : Cond.instanceMethod yX7_dark ∈ wsL_law := lwp_20 _ (List.mem_of_getElem? (i := 11) rfl)
theorem lwm_593 : Cond.methodLink RL 70 yX7_dark ∈ wsL_law := lwp_20 _ (List.mem_of_getElem? (i := 10) rfl)
theorem lwm_594 : Cond.selects RX6 yX6_walk yX6_walk ∈ wsL_law := lwp_20 _ (List.mem_of_getElem? (i := 20) rfl)
theorem lwm_595 : Cond.instanceMethod yX6_walk ∈ wsL_law := lwp_20 _ (List.mem_of_getElem? (i := 19) rfl)
theorem lwm_596 : Cond.methodLink RL 71 yX6_walk ∈ wsL_law := lwp_20 _ (List.mem_of_getElem? (i := 18) rfl)
theorem lwm_597 : Cond.selects RX7 yX7_walk yX7_walk ∈ wsL_law := lwp_21 _ (List.mem_of_getElem? (i := 1) rfl)
theorem lwm_598 : Cond.instanceMethod yX7_walk ∈ wsL_law := lwp_21 _ (List.mem_of_getElem? (i := 0) rfl)
theorem lwm_599 : Cond.methodLink RL 74 yX7_walk ∈ wsL_law := lwp_20 _ (List.mem_of_getElem? (i := 23) rfl)
theorem lwm_600 : Cond.selects RX6 yX6_seen yX6_seen ∈ wsL_law := lwp_21 _ (List.mem_of_getElem? (i := 5) rfl)
theorem lwm_601 : Cond.instanceMethod yX6_seen ∈ wsL_law := lwp_21 _ (List.mem_of_getElem? (i := 4) rfl)
theorem lwm_602 : Cond.methodLink RL 75 yX6_seen ∈ wsL_law := lwp_21 _ (List.mem_of_getElem? (i := 3) rfl)
theorem lwm_603 : Cond.selects RX7 yX7_seen yX7_seen ∈ wsL_law := lwp_21 _ (List.mem_of_getElem? (i := 14) rfl)
theorem lwm_604 : Cond.instanceMethod yX7_seen ∈ wsL_law := lwp_21 _ (List.mem_of_getElem? (i := 13) rfl)
theorem lwm_605 : Cond.methodLink RL 79 yX7_seen ∈ wsL_law := lwp_21 _ (List.mem_of_getElem? (i := 12) rfl)
theorem lwm_606 : Cond.selects RX6 yX6_forget yX6_forget ∈ wsL_law := lwp_21 _ (List.mem_of_getElem? (i := 18) rfl)
theorem lwm_607 : Cond.instanceMethod yX6_forget ∈ wsL_law := lwp_21 _ (List.mem_of_getElem? (i := 17) rfl)
theorem lwm_608 : Cond.methodLink RL 80 yX6_forget ∈ wsL_law := lwp_21 _ (List.mem_of_getElem? (i := 16) rfl)
theorem lwm_609 : Cond.selects RX7 yX7_forget yX7_forget ∈ wsL_law := lwp_21 _ (List.mem_of_getElem? (i := 22) rfl)
theorem lwm_610 : Cond.instanceMethod yX7_forget ∈ wsL_law := lwp_21 _ (List.mem_of_getElem? (i := 21) rfl)
theorem lwm_611 : Cond.methodLink RL 83 yX7_forget ∈ wsL_law := lwp_21 _ (List.mem_of_getElem? (i := 20) rfl)
theorem lwm_612 : Cond.selects RX6 yX6_fits yX6_fits ∈ wsL_law := lwp_22 _ (List.mem_of_getElem? (i := 2) rfl)
theorem lwm_613 : Cond.instanceMethod yX6_fits ∈ wsL_law := lwp_22 _ (List.mem_of_getElem? (i := 1) rfl)
theorem lwm_614 : Cond.methodLink RL 84 yX6_fits ∈ wsL_law := lwp_22 _ (List.mem_of_getElem? (i := 0) rfl)
theorem lwm_615 : Cond.selects RX7 yX7_fits yX7_fits ∈ wsL_law := lwp_23 _ (List.mem_of_getElem? (i := 2) rfl)
theorem lwm_616 : Cond.instanceMethod yX7_fits ∈ wsL_law := lwp_23 _ (List.mem_of_getElem? (i := 1) rfl)
theorem lwm_617 : Cond.methodLink RL 87 yX7_fits ∈ wsL_law := lwp_23 _ (List.mem_of_getElem? (i := 0) rfl)
theorem lwm_618 : Cond.selects RX6 yX6_odds yX6_odds ∈ wsL_law := lwp_24 _ (List.mem_of_getElem? (i := 1) rfl)
theorem lwm_619 : Cond.instanceMethod yX6_odds ∈ wsL_law := lwp_24 _ (List.mem_of_getElem? (i := 0) rfl)
theorem lwm_620 : Cond.methodLink RL 88 yX6_odds ∈ wsL_law := lwp_23 _ (List.mem_of_getElem? (i := 23) rfl)
theorem lwm_621 : Cond.selects RX7 yX7_odds yX7_odds ∈ wsL_law := lwp_24 _ (List.mem_of_getElem? (i := 8) rfl)
theorem lwm_622 : Cond.instanceMethod yX7_odds ∈ wsL_law := lwp_24 _ (List.mem_of_getElem? (i := 7) rfl)
theorem lwm_623 : Cond.methodLink RL 91 yX7_odds ∈ wsL_law := lwp_24 _ (List.mem_of_getElem? (i := 6) rfl)
theorem lwm_624 : Cond.selects RX6 yX6_letOut yX6_letOut ∈ wsL_law := lwp_24 _ (List.mem_of_getElem? (i := 12) rfl)
theorem lwm_625 : Cond.instanceMethod yX6_letOut ∈ wsL_law := lwp_24 _ (List.mem_of_getElem? (i := 11) rfl)
theorem lwm_626 : Cond.methodLink RL 92 yX6_letOut ∈ wsL_law := lwp_24 _ (List.mem_of_getElem? (i := 10) rfl)
theorem lwm_627 : Cond.selects RX7 yX7_letOut yX7_letOut ∈ wsL_law := lwp_24 _ (List.mem_of_getElem? (i := 21) rfl)
theorem lwm_628 : Cond.instanceMethod yX7_letOut ∈ wsL_law := lwp_24 _ (List.mem_of_getElem? (i := 20) rfl)
theorem lwm_629 : Cond.methodLink RL 95 yX7_letOut ∈ wsL_law := lwp_24 _ (List.mem_of_getElem? (i := 19) rfl)
theorem lwm_630 : Cond.selects RX6 yX6_coldHands yX6_coldHands ∈ wsL_law := lwp_25 _ (List.mem_of_getElem? (i := 1) rfl)
theorem lwm_631 : Cond.instanceMethod yX6_coldHands ∈ wsL_law := lwp_25 _ (List.mem_of_getElem? (i := 0) rfl)
theorem lwm_632 : Cond.methodLink RL 96 yX6_coldHands ∈ wsL_law := lwp_24 _ (List.mem_of_getElem? (i := 23) rfl)
theorem lwm_633 : Cond.selects RX7 yX7_coldHands yX7_coldHands ∈ wsL_law := lwp_25 _ (List.mem_of_getElem? (i := 5) rfl)
theorem lwm_634 : Cond.instanceMethod yX7_coldHands ∈ wsL_law := lwp_25 _ (List.mem_of_getElem? (i := 4) rfl)
theorem lwm_635 : Cond.methodLink RL 99 yX7_coldHands ∈ wsL_law := lwp_25 _ (List.mem_of_getElem? (i := 3) rfl)
theorem lwm_636 : Cond.selects RX6 yX6_keepLit yX6_keepLit ∈ wsL_law := lwp_25 _ (List.mem_of_getElem? (i := 9) rfl)
theorem lwm_637 : Cond.instanceMethod yX6_keepLit ∈ wsL_law := lwp_25 _ (List.mem_of_getElem? (i := 8) rfl)
theorem lwm_638 : Cond.methodLink RL 100 yX6_keepLit ∈ wsL_law := lwp_25 _ (List.mem_of_getElem? (i := 7) rfl)
theorem lwm_639 : Cond.selects RX7 yX7_keepLit yX7_keepLit ∈ wsL_law := lwp_26 _ (List.mem_of_getElem? (i := 6) rfl)
theorem lwm_640 : Cond.instanceMethod yX7_keepLit ∈ wsL_law := lwp_26 _ (List.mem_of_getElem? (i := 5) rfl)
theorem lwm_641 : Cond.methodLink RL 104 yX7_keepLit ∈ wsL_law := lwp_26 _ (List.mem_of_getElem? (i := 4) rfl)
theorem lwm_642 : Cond.selects RX6 yX6_oil yX6_oil ∈ wsL_law := lwp_26 _ (List.mem_of_getElem? (i := 22) rfl)
theorem lwm_643 : Cond.instanceMethod yX6_oil ∈ wsL_law := lwp_26 _ (List.mem_of_getElem? (i := 21) rfl)
theorem lwm_644 : Cond.methodLink RL 105 yX6_oil ∈ wsL_law := lwp_26 _ (List.mem_of_getElem? (i := 20) rfl)
theorem lwm_645 : Cond.selects RX7 yX7_oil yX7_oil ∈ wsL_law := lwp_27 _ (List.mem_of_getElem? (i := 5) rfl)
theorem lwm_646 : Cond.instanceMethod yX7_oil ∈ wsL_law := lwp_27 _ (List.mem_of_getElem? (i := 4) rfl)
theorem lwm_647 : Cond.methodLink RL 108 yX7_oil ∈ wsL_law := lwp_27 _ (List.mem_of_getElem? (i := 3) rfl)
theorem lwm_648 : Cond.selects RX6 yX6_night yX6_night ∈ wsL_law := lwp_27 _ (List.mem_of_getElem? (i := 9) rfl)
theorem lwm_649 : Cond.instanceMethod yX6_night ∈ wsL_law := lwp_27 _ (List.mem_of_getElem? (i := 8) rfl)
theorem lwm_650 : Cond.methodLink RL 109 yX6_night ∈ wsL_law := lwp_27 _ (List.mem_of_getElem? (i := 7) rfl)
theorem lwm_651 : Cond.selects RX7 yX7_night yX7_night ∈ wsL_law := lwp_28 _ (List.mem_of_getElem? (i := 0) rfl)
theorem lwm_652 : Cond.instanceMethod yX7_night ∈ wsL_law := lwp_27 _ (List.mem_of_getElem? (i := 23) rfl)
theorem lwm_653 : Cond.methodLink RL 112 yX7_night ∈ wsL_law := lwp_27 _ (List.mem_of_getElem? (i := 22) rfl)
theorem lwm_654 : Cond.selects RX6 yX6_keep yX6_keep ∈ wsL_law := lwp_28 _ (List.mem_of_getElem? (i := 11) rfl)
theorem lwm_655 : Cond.instanceMethod yX6_keep ∈ wsL_law := lwp_28 _ (List.mem_of_getElem? (i := 10) rfl)
theorem lwm_656 : Cond.methodLink RL 113 yX6_keep ∈ wsL_law := lwp_28 _ (List.mem_of_getElem? (i := 9) rfl)
theorem lwm_657 : Cond.selects RX7 yX7_keep yX7_keep ∈ wsL_law := lwp_28 _ (List.mem_of_getElem? (i := 15) rfl)
theorem lwm_658 : Cond.instanceMethod yX7_keep ∈ wsL_law := lwp_28 _ (List.mem_of_getElem? (i := 14) rfl)
theorem lwm_659 : Cond.methodLink RL 116 yX7_keep ∈ wsL_law := lwp_28 _ (List.mem_of_getElem? (i := 13) rfl)
theorem lwm_660 : Cond.selects RX6 yX6_back yX6_back ∈ wsL_law := lwp_28 _ (List.mem_of_getElem? (i := 19) rfl)
theorem lwm_661 : Cond.instanceMethod yX6_back ∈ wsL_law := lwp_28 _ (List.mem_of_getElem? (i := 18) rfl)
theorem lwm_662 : Cond.methodLink RL 117 yX6_back ∈ wsL_law := lwp_28 _ (List.mem_of_getElem? (i := 17) rfl)
theorem lwm_663 : Cond.selects RX7 yX7_back yX7_back ∈ wsL_law := lwp_28 _ (List.mem_of_getElem? (i := 23) rfl)
theorem lwm_664 : Cond.instanceMethod yX7_back ∈ wsL_law := lwp_28 _ (List.mem_of_getElem? (i := 22) rfl)
theorem lwm_665 : Cond.methodLink RL 120 yX7_back ∈ wsL_law := lwp_28 _ (List.mem_of_getElem? (i := 21) rfl)
theorem lwm_666 : Cond.selects RX6 yX6_count yX6_count ∈ wsL_law := lwp_29 _ (List.mem_of_getElem? (i := 3) rfl)
theorem lwm_667 : Cond.instanceMethod yX6_count ∈ wsL_law := lwp_29 _ (List.mem_of_getElem? (i := 2) rfl)
theorem lwm_668 : Cond.methodLink RL 121 yX6_count ∈ wsL_law := lwp_29 _ (List.mem_of_getElem? (i := 1) rfl)
theorem lwm_669 : Cond.selects RX7 yX7_count yX7_count ∈ wsL_law := lwp_29 _ (List.mem_of_getElem? (i := 7) rfl)
theorem lwm_670 : Cond.instanceMethod yX7_count ∈ wsL_law := lwp_29 _ (List.mem_of_getElem? (i := 6) rfl)
theorem lwm_671 : Cond.methodLink RL 124 yX7_count ∈ wsL_law := lwp_29 _ (List.mem_of_getElem? (i := 5) rfl)
theorem lws_wsX6_init_r1 : ∀ w ∈ wsX6_init_r1, w ∈ wsL_law := by
  unfold wsX6_init_r1
  exact (List.forall_mem_cons.mpr ⟨lwm_24, (List.forall_mem_cons.mpr ⟨lwm_23, (List.forall_mem_cons.mpr ⟨lwm_22, (List.forall_mem_cons.mpr ⟨lwm_21, (List.forall_mem_cons.mpr ⟨lwm_20, (List.forall_mem_cons.mpr ⟨lwm_19, (List.forall_mem_cons.mpr ⟨lwm_18, (List.forall_mem_cons.mpr ⟨lwm_17, (List.forall_mem_cons.mpr ⟨lwm_16, (List.forall_mem_cons.mpr ⟨lwm_15, (List.forall_mem_cons.mpr ⟨lwm_14, (List.forall_mem_cons.mpr ⟨lwm_13, (List.forall_mem_cons.mpr ⟨lwm_12, (List.forall_mem_cons.mpr ⟨lwm_11, (List.forall_mem_cons.mpr ⟨lwm_10, (List.forall_mem_cons.mpr ⟨lwm_9, (List.forall_mem_cons.mpr ⟨lwm_8, (List.forall_mem_cons.mpr ⟨lwm_7, (List.forall_mem_cons.mpr ⟨lwm_6, (List.forall_mem_cons.mpr ⟨lwm_5, (List.forall_mem_cons.mpr ⟨lwm_4, (List.forall_mem_cons.mpr ⟨lwm_3, (List.forall_mem_cons.mpr ⟨lwm_2, (List.forall_mem_cons.mpr ⟨lwm_1, (fun _ h => absurd h List.not_mem_nil)⟩)⟩)⟩)⟩)⟩)⟩)⟩)⟩)⟩)⟩)⟩)⟩)⟩)⟩)⟩)⟩)⟩)⟩)⟩)⟩)⟩)⟩)⟩)⟩)
theorem lws_wsX6_init_r2 : ∀ w ∈ wsX6_init_r2, w ∈ wsL_law := by
  unfold wsX6_init_r2
  exact (List.forall_mem_cons.mpr ⟨lwm_48, (List.forall_mem_cons.mpr ⟨lwm_47, (List.forall_mem_cons.mpr ⟨lwm_46, (List.forall_mem_cons.mpr ⟨lwm_45, (List.forall_mem_cons.mpr ⟨lwm_44, (List.forall_mem_cons.mpr ⟨lwm_43, (List.forall_mem_cons.mpr ⟨lwm_42, (List.forall_mem_cons.mpr ⟨lwm_41, (List.forall_mem_cons.mpr ⟨lwm_40, (List.forall_mem_cons.mpr ⟨lwm_39, (List.forall_mem_cons.mpr ⟨lwm_38, (List.forall_mem_cons.mpr ⟨lwm_37, (List.forall_mem_cons.mpr ⟨lwm_36, (List.forall_mem_cons.mpr ⟨lwm_35, (List.forall_mem_cons.mpr ⟨lwm_34, (List.forall_mem_cons.mpr ⟨lwm_33, (List.forall_mem_cons.mpr ⟨lwm_32, (List.forall_mem_cons.mpr ⟨lwm_31, (List.forall_mem_cons.mpr ⟨lwm_30, (List.forall_mem_cons.mpr ⟨lwm_29, (List.forall_mem_cons.mpr ⟨lwm_28, (List.forall_mem_cons.mpr ⟨lwm_27, (List.forall_mem_cons.mpr ⟨lwm_26, (List.forall_mem_cons.mpr ⟨lwm_25, (fun _ h => absurd h List.not_mem_nil)⟩)⟩)⟩)⟩)⟩)⟩)⟩)⟩)⟩)⟩)⟩)⟩)⟩)⟩)⟩)⟩)⟩)⟩)⟩)⟩)⟩)⟩)⟩)⟩)
theorem lws_wsX6_init_r3 : ∀ w ∈ wsX6_init_r3, w ∈ wsL_law := by
  unfold wsX6_init_r3
  exact (List.forall_mem_cons.mpr ⟨lwm_72, (List.forall_mem_cons.mpr ⟨lwm_71, (List.forall_mem_cons.mpr ⟨lwm_70, (List.forall_mem_cons.mpr ⟨lwm_69, (List.forall_mem_cons.mpr ⟨lwm_68, (List.forall_mem_cons.mpr ⟨lwm_67, (List.forall_mem_cons.mpr ⟨lwm_66, (List.forall_mem_cons.mpr ⟨lwm_65, (List.forall_mem_cons.mpr ⟨lwm_64, (List.forall_mem_cons.mpr ⟨lwm_63, (List.forall_mem_cons.mpr ⟨lwm_62, (List.forall_mem_cons.mpr ⟨lwm_61, (List.forall_mem_cons.mpr ⟨lwm_60, (List.forall_mem_cons.mpr ⟨lwm_59, (List.forall_mem_cons.mpr ⟨lwm_58, (List.forall_mem_cons.mpr ⟨lwm_57, (List.forall_mem_cons.mpr ⟨lwm_56, (List.forall_mem_cons.mpr ⟨lwm_55, (List.forall_mem_cons.mpr ⟨lwm_54, (List.forall_mem_cons.mpr ⟨lwm_53, (List.forall_mem_cons.mpr ⟨lwm_52, (List.forall_mem_cons.mpr ⟨lwm_51, (List.forall_mem_cons.mpr ⟨lwm_50, (List.forall_mem_cons.mpr ⟨lwm_49, (fun _ h => absurd h List.not_mem_nil)⟩)⟩)⟩)⟩)⟩)⟩)⟩)⟩)⟩)⟩)⟩)⟩)⟩)⟩)⟩)⟩)⟩)⟩)⟩)⟩)⟩)⟩)⟩)⟩)
theorem lws_wsX6_init_r4 : ∀ w ∈ wsX6_init_r4, w ∈ wsL_law := by
  unfold wsX6_init_r4
  exact (List.forall_mem_cons.mpr ⟨lwm_96, (List.forall_mem_cons.mpr ⟨lwm_95, (List.forall_mem_cons.mpr ⟨lwm_94, (List.forall_mem_cons.mpr ⟨lwm_93, (List.forall_mem_cons.mpr ⟨lwm_92, (List.forall_mem_cons.mpr ⟨lwm_91, (List.forall_mem_cons.mpr ⟨lwm_90, (List.forall_mem_cons.mpr ⟨lwm_89, (List.forall_mem_cons.mpr ⟨lwm_88, (List.forall_mem_cons.mpr ⟨lwm_87, (List.forall_mem_cons.mpr ⟨lwm_86, (List.forall_mem_cons.mpr ⟨lwm_85, (List.forall_mem_cons.mpr ⟨lwm_84, (List.forall_mem_cons.mpr ⟨lwm_83, (List.forall_mem_cons.mpr ⟨lwm_82, (List.forall_mem_cons.mpr ⟨lwm_81, (List.forall_mem_cons.mpr ⟨lwm_80, (List.forall_mem_cons.mpr ⟨lwm_79, (List.forall_mem_cons.mpr ⟨lwm_78, (List.forall_mem_cons.mpr ⟨lwm_77, (List.forall_mem_cons.mpr ⟨lwm_76, (List.forall_mem_cons.mpr ⟨lwm_75, (List.forall_mem_cons.mpr ⟨lwm_74, (List.forall_mem_cons.mpr ⟨lwm_73, (fun _ h => absurd h List.not_mem_nil)⟩)⟩)⟩)⟩)⟩)⟩)⟩)⟩)⟩)⟩)⟩)⟩)⟩)⟩)⟩)⟩)⟩)⟩)⟩)⟩)⟩)⟩)⟩)⟩)
theorem lws_wsX6_init_r5 : ∀ w ∈ wsX6_init_r5, w ∈ wsL_law := by
  unfold wsX6_init_r5
  exact (List.forall_mem_cons.mpr ⟨lwm_109, (List.forall_mem_cons.mpr ⟨lwm_108, (List.forall_mem_cons.mpr ⟨lwm_107, (List.forall_mem_cons.mpr ⟨lwm_106, (List.forall_mem_cons.mpr ⟨lwm_105, (List.forall_mem_cons.mpr ⟨lwm_104, (List.forall_mem_cons.mpr ⟨lwm_103, (List.forall_mem_cons.mpr ⟨lwm_102, (List.forall_mem_cons.mpr ⟨lwm_101, (List.forall_mem_cons.mpr ⟨lwm_100, (List.forall_mem_cons.mpr ⟨lwm_99, (List.forall_mem_cons.mpr ⟨lwm_98, (List.forall_mem_cons.mpr ⟨lwm_97, (fun _ h => absurd h List.not_mem_nil)⟩)⟩)⟩)⟩)⟩)⟩)⟩)⟩)⟩)⟩)⟩)⟩)⟩)
set_option maxRecDepth 20000 in
theorem ggL_law_X6_init : GoodIn wsL_law wsX6_init := goodIn_sub (by
  unfold wsX6_init
  exact (List.forall_mem_cons.mpr ⟨lwm_0, (List.forall_mem_append.mpr ⟨(List.forall_mem_append.mpr ⟨(List.forall_mem_append.mpr ⟨(List.forall_mem_append.mpr ⟨(List.forall_mem_append.mpr ⟨(List.forall_mem_append.mpr ⟨(List.forall_mem_append.mpr ⟨(List.forall_mem_append.mpr ⟨lws_wsX6_init_r1, (List.forall_mem_append.mpr ⟨lws_wsX6_init_r2, (List.forall_mem_append.mpr ⟨lws_wsX6_init_r3, (List.forall_mem_append.mpr ⟨lws_wsX6_init_r4, lws_wsX6_init_r5⟩)⟩)⟩)⟩), inlX3⟩), inlX6⟩), inlX2⟩), inlX0⟩), inlX4⟩), inlX1⟩), inlX5⟩)⟩)) (by decide +kernel)
theorem lws_wsX7_init_r1 : ∀ w ∈ wsX7_init_r1, w ∈ wsL_law := by
  unfold wsX7_init_r1
  exact (List.forall_mem_cons.mpr ⟨lwm_131, (List.forall_mem_cons.mpr ⟨lwm_23, (List.forall_mem_cons.mpr ⟨lwm_22, (List.forall_mem_cons.mpr ⟨lwm_36, (List.forall_mem_cons.mpr ⟨lwm_130, (List.forall_mem_cons.mpr ⟨lwm_129, (List.forall_mem_cons.mpr ⟨lwm_128, (List.forall_mem_cons.mpr ⟨lwm_127, (List.forall_mem_cons.mpr ⟨lwm_126, (List.forall_mem_cons.mpr ⟨lwm_125, (List.forall_mem_cons.mpr ⟨lwm_124, (List.forall_mem_cons.mpr ⟨lwm_123, (List.forall_mem_cons.mpr ⟨lwm_122, (List.forall_mem_cons.mpr ⟨lwm_121, (List.forall_mem_cons.mpr ⟨lwm_120, (List.forall_mem_cons.mpr ⟨lwm_119, (List.forall_mem_cons.mpr ⟨lwm_118, (List.forall_mem_cons.mpr ⟨lwm_117, (List.forall_mem_cons.mpr ⟨lwm_116, (List.forall_mem_cons.mpr ⟨lwm_115, (List.forall_mem_cons.mpr ⟨lwm_114, (List.forall_mem_cons.mpr ⟨lwm_113, (List.forall_mem_cons.mpr ⟨lwm_112, (List.forall_mem_cons.mpr ⟨lwm_111, (fun _ h => absurd h List.not_mem_nil)⟩)⟩)⟩)⟩)⟩)⟩)⟩)⟩)⟩)⟩)⟩)⟩)⟩)⟩)⟩)⟩)⟩)⟩)⟩)⟩)⟩)⟩)⟩)⟩)
theorem lws_wsX7_init_r2 : ∀ w ∈ wsX7_init_r2, w ∈ wsL_law := by
  unfold wsX7_init_r2
  exact (List.forall_mem_cons.mpr ⟨lwm_139, (List.forall_mem_cons.mpr ⟨lwm_138, (List.forall_mem_cons.mpr ⟨lwm_137, (List.forall_mem_cons.mpr ⟨lwm_136, (List.forall_mem_cons.mpr ⟨lwm_135, (List.forall_mem_cons.mpr ⟨lwm_134, (List.forall_mem_cons.mpr ⟨lwm_133, (List.forall_mem_cons.mpr ⟨lwm_132, (fun _ h => absurd h List.not_mem_nil)⟩)⟩)⟩)⟩)⟩)⟩)⟩)⟩)
set_option maxRecDepth 20000 in
theorem ggL_law_X7_init : GoodIn wsL_law wsX7_init := goodIn_sub (by
  unfold wsX7_init
  exact (List.forall_mem_cons.mpr ⟨lwm_110, (List.forall_mem_append.mpr ⟨(List.forall_mem_append.mpr ⟨lws_wsX7_init_r1, lws_wsX7_init_r2⟩), inlX7⟩)⟩)) (by decide +kernel)
set_option maxRecDepth 20000 in
theorem ggL_law_X6_write : GoodIn wsL_law wsX6_write := goodIn_sub (by
  unfold wsX6_write
  exact (List.forall_mem_cons.mpr ⟨lwm_140, (List.forall_mem_append.mpr ⟨(List.forall_mem_append.mpr ⟨(List.forall_mem_cons.mpr ⟨lwm_142, (List.forall_mem_cons.mpr ⟨lwm_18, (List.forall_mem_cons.mpr ⟨lwm_141, (List.forall_mem_cons.mpr ⟨lwm_84, (List.forall_mem_cons.mpr ⟨lwm_83, (List.forall_mem_cons.mpr ⟨lwm_19, (List.forall_mem_cons.mpr ⟨lwm_82, (List.forall_mem_cons.mpr ⟨lwm_35, (fun _ h => absurd h List.not_mem_nil)⟩)⟩)⟩)⟩)⟩)⟩)⟩)⟩), inlX6⟩), inlX3⟩)⟩)) (by decide +kernel)
set_option maxRecDepth 20000 in
theorem ggL_law_X7_write : GoodIn wsL_law wsX7_write := goodIn_sub (by
  unfold wsX7_write
  exact (List.forall_mem_cons.mpr ⟨lwm_143, (List.forall_mem_append.mpr ⟨(List.forall_mem_cons.mpr ⟨lwm_148, (List.forall_mem_cons.mpr ⟨lwm_130, (List.forall_mem_cons.mpr ⟨lwm_147, (List.forall_mem_cons.mpr ⟨lwm_146, (List.forall_mem_cons.mpr ⟨lwm_145, (List.forall_mem_cons.mpr ⟨lwm_133, (List.forall_mem_cons.mpr ⟨lwm_144, (fun _ h => absurd h List.not_mem_nil)⟩)⟩)⟩)⟩)⟩)⟩)⟩), inlX7⟩)⟩)) (by decide +kernel)
set_option maxRecDepth 20000 in
theorem ggL_law_X6_wipe : GoodIn wsL_law wsX6_wipe := goodIn_sub (by
  unfold wsX6_wipe
  exact (List.forall_mem_cons.mpr ⟨lwm_149, (List.forall_mem_append.mpr ⟨(List.forall_mem_cons.mpr ⟨lwm_142, (fun _ h => absurd h List.not_mem_nil)⟩), inlX6⟩)⟩)) (by decide +kernel)
set_option maxRecDepth 20000 in
theorem ggL_law_X7_wipe : GoodIn wsL_law wsX7_wipe := goodIn_sub (by
  unfold wsX7_wipe
  exact (List.forall_mem_cons.mpr ⟨lwm_150, (List.forall_mem_append.mpr ⟨(List.forall_mem_cons.mpr ⟨lwm_148, (fun _ h => absurd h List.not_mem_nil)⟩), inlX7⟩)⟩)) (by decide +kernel)
theorem lws_wsX6_fault_r1 : ∀ w ∈ wsX6_fault_r1, w ∈ wsL_law := by
  unfold wsX6_fault_r1
  exact (List.forall_mem_cons.mpr ⟨lwm_14, (List.forall_mem_cons.mpr ⟨lwm_18, (List.forall_mem_cons.mpr ⟨lwm_142, (List.forall_mem_cons.mpr ⟨lwm_41, (List.forall_mem_cons.mpr ⟨lwm_160, (List.forall_mem_cons.mpr ⟨lwm_159, (List.forall_mem_cons.mpr ⟨lwm_158, (List.forall_mem_cons.mpr ⟨lwm_15, (List.forall_mem_cons.mpr ⟨lwm_157, (List.forall_mem_cons.mpr ⟨lwm_156, (List.forall_mem_cons.mpr ⟨lwm_155, (List.forall_mem_cons.mpr ⟨lwm_154, (List.forall_mem_cons.mpr ⟨lwm_43, (List.forall_mem_cons.mpr ⟨lwm_153, (List.forall_mem_cons.mpr ⟨lwm_51, (List.forall_mem_cons.mpr ⟨lwm_50, (List.forall_mem_cons.mpr ⟨lwm_86, (List.forall_mem_cons.mpr ⟨lwm_77, (List.forall_mem_cons.mpr ⟨lwm_76, (List.forall_mem_cons.mpr ⟨lwm_95, (List.forall_mem_cons.mpr ⟨lwm_152, (List.forall_mem_cons.mpr ⟨lwm_94, (List.forall_mem_cons.mpr ⟨lwm_93, (List.forall_mem_cons.mpr ⟨lwm_92, (fun _ h => absurd h List.not_mem_nil)⟩)⟩)⟩)⟩)⟩)⟩)⟩)⟩)⟩)⟩)⟩)⟩)⟩)⟩)⟩)⟩)⟩)⟩)⟩)⟩)⟩)⟩)⟩)⟩)
theorem lws_wsX6_fault_r2 : ∀ w ∈ wsX6_fault_r2, w ∈ wsL_law := by
  unfold wsX6_fault_r2
  exact (List.forall_mem_cons.mpr ⟨lwm_175, (List.forall_mem_cons.mpr ⟨lwm_174, (List.forall_mem_cons.mpr ⟨lwm_173, (List.forall_mem_cons.mpr ⟨lwm_19, (List.forall_mem_cons.mpr ⟨lwm_172, (List.forall_mem_cons.mpr ⟨lwm_35, (List.forall_mem_cons.mpr ⟨lwm_171, (List.forall_mem_cons.mpr ⟨lwm_170, (List.forall_mem_cons.mpr ⟨lwm_169, (List.forall_mem_cons.mpr ⟨lwm_168, (List.forall_mem_cons.mpr ⟨lwm_167, (List.forall_mem_cons.mpr ⟨lwm_30, (List.forall_mem_cons.mpr ⟨lwm_166, (List.forall_mem_cons.mpr ⟨lwm_99, (List.forall_mem_cons.mpr ⟨lwm_98, (List.forall_mem_cons.mpr ⟨lwm_97, (List.forall_mem_cons.mpr ⟨lwm_165, (List.forall_mem_cons.mpr ⟨lwm_84, (List.forall_mem_cons.mpr ⟨lwm_83, (List.forall_mem_cons.mpr ⟨lwm_82, (List.forall_mem_cons.mpr ⟨lwm_164, (List.forall_mem_cons.mpr ⟨lwm_163, (List.forall_mem_cons.mpr ⟨lwm_162, (List.forall_mem_cons.mpr ⟨lwm_161, (fun _ h => absurd h List.not_mem_nil)⟩)⟩)⟩)⟩)⟩)⟩)⟩)⟩)⟩)⟩)⟩)⟩)⟩)⟩)⟩)⟩)⟩)⟩)⟩)⟩)⟩)⟩)⟩)⟩)
theorem lws_wsX6_fault_r3 : ∀ w ∈ wsX6_fault_r3, w ∈ wsL_law := by
  unfold wsX6_fault_r3
  exact (List.forall_mem_cons.mpr ⟨lwm_190, (List.forall_mem_cons.mpr ⟨lwm_89, (List.forall_mem_cons.mpr ⟨lwm_88, (List.forall_mem_cons.mpr ⟨lwm_87, (List.forall_mem_cons.mpr ⟨lwm_85, (List.forall_mem_cons.mpr ⟨lwm_189, (List.forall_mem_cons.mpr ⟨lwm_80, (List.forall_mem_cons.mpr ⟨lwm_79, (List.forall_mem_cons.mpr ⟨lwm_78, (List.forall_mem_cons.mpr ⟨lwm_188, (List.forall_mem_cons.mpr ⟨lwm_187, (List.forall_mem_cons.mpr ⟨lwm_186, (List.forall_mem_cons.mpr ⟨lwm_185, (List.forall_mem_cons.mpr ⟨lwm_184, (List.forall_mem_cons.mpr ⟨lwm_183, (List.forall_mem_cons.mpr ⟨lwm_182, (List.forall_mem_cons.mpr ⟨lwm_181, (List.forall_mem_cons.mpr ⟨lwm_180, (List.forall_mem_cons.mpr ⟨lwm_179, (List.forall_mem_cons.mpr ⟨lwm_178, (List.forall_mem_cons.mpr ⟨lwm_177, (List.forall_mem_cons.mpr ⟨lwm_176, (List.forall_mem_cons.mpr ⟨lwm_49, (List.forall_mem_cons.mpr ⟨lwm_96, (fun _ h => absurd h List.not_mem_nil)⟩)⟩)⟩)⟩)⟩)⟩)⟩)⟩)⟩)⟩)⟩)⟩)⟩)⟩)⟩)⟩)⟩)⟩)⟩)⟩)⟩)⟩)⟩)⟩)
theorem lws_wsX6_fault_r4 : ∀ w ∈ wsX6_fault_r4, w ∈ wsL_law := by
  unfold wsX6_fault_r4
  exact (List.forall_mem_cons.mpr ⟨lwm_194, (List.forall_mem_cons.mpr ⟨lwm_193, (List.forall_mem_cons.mpr ⟨lwm_192, (List.forall_mem_cons.mpr ⟨lwm_191, (fun _ h => absurd h List.not_mem_nil)⟩)⟩)⟩)⟩)
set_option maxRecDepth 20000 in
theorem ggL_law_X6_fault : GoodIn wsL_law wsX6_fault := goodIn_sub (by
  unfold wsX6_fault
  exact (List.forall_mem_cons.mpr ⟨lwm_151, (List.forall_mem_append.mpr ⟨(List.forall_mem_append.mpr ⟨(List.forall_mem_append.mpr ⟨(List.forall_mem_append.mpr ⟨(List.forall_mem_append.mpr ⟨lws_wsX6_fault_r1, (List.forall_mem_append.mpr ⟨lws_wsX6_fault_r2, (List.forall_mem_append.mpr ⟨lws_wsX6_fault_r3, lws_wsX6_fault_r4⟩)⟩)⟩), inlX6⟩), inlX5⟩), inlX3⟩), inlX2⟩)⟩)) (by decide +kernel)
theorem lws_wsX7_fault_r1 : ∀ w ∈ wsX7_fault_r1, w ∈ wsL_law := by
  unfold wsX7_fault_r1
  exact (List.forall_mem_cons.mpr ⟨lwm_211, (List.forall_mem_cons.mpr ⟨lwm_210, (List.forall_mem_cons.mpr ⟨lwm_209, (List.forall_mem_cons.mpr ⟨lwm_133, (List.forall_mem_cons.mpr ⟨lwm_208, (List.forall_mem_cons.mpr ⟨lwm_207, (List.forall_mem_cons.mpr ⟨lwm_206, (List.forall_mem_cons.mpr ⟨lwm_205, (List.forall_mem_cons.mpr ⟨lwm_204, (List.forall_mem_cons.mpr ⟨lwm_203, (List.forall_mem_cons.mpr ⟨lwm_202, (List.forall_mem_cons.mpr ⟨lwm_148, (List.forall_mem_cons.mpr ⟨lwm_201, (List.forall_mem_cons.mpr ⟨lwm_200, (List.forall_mem_cons.mpr ⟨lwm_199, (List.forall_mem_cons.mpr ⟨lwm_198, (List.forall_mem_cons.mpr ⟨lwm_130, (List.forall_mem_cons.mpr ⟨lwm_129, (List.forall_mem_cons.mpr ⟨lwm_128, (List.forall_mem_cons.mpr ⟨lwm_127, (List.forall_mem_cons.mpr ⟨lwm_126, (List.forall_mem_cons.mpr ⟨lwm_125, (List.forall_mem_cons.mpr ⟨lwm_197, (List.forall_mem_cons.mpr ⟨lwm_196, (fun _ h => absurd h List.not_mem_nil)⟩)⟩)⟩)⟩)⟩)⟩)⟩)⟩)⟩)⟩)⟩)⟩)⟩)⟩)⟩)⟩)⟩)⟩)⟩)⟩)⟩)⟩)⟩)⟩)
theorem lws_wsX7_fault_r2 : ∀ w ∈ wsX7_fault_r2, w ∈ wsL_law := by
  unfold wsX7_fault_r2
  exact (List.forall_mem_cons.mpr ⟨lwm_217, (List.forall_mem_cons.mpr ⟨lwm_216, (List.forall_mem_cons.mpr ⟨lwm_146, (List.forall_mem_cons.mpr ⟨lwm_145, (List.forall_mem_cons.mpr ⟨lwm_144, (List.forall_mem_cons.mpr ⟨lwm_215, (List.forall_mem_cons.mpr ⟨lwm_214, (List.forall_mem_cons.mpr ⟨lwm_213, (List.forall_mem_cons.mpr ⟨lwm_212, (fun _ h => absurd h List.not_mem_nil)⟩)⟩)⟩)⟩)⟩)⟩)⟩)⟩)⟩)
set_option maxRecDepth 20000 in
theorem ggL_law_X7_fault : GoodIn wsL_law wsX7_fault := goodIn_sub (by
  unfold wsX7_fault
  exact (List.forall_mem_cons.mpr ⟨lwm_195, (List.forall_mem_append.mpr ⟨(List.forall_mem_append.mpr ⟨lws_wsX7_fault_r1, lws_wsX7_fault_r2⟩), inlX7⟩)⟩)) (by decide +kernel)
theorem lws_wsX6_lay_r1 : ∀ w ∈ wsX6_lay_r1, w ∈ wsL_law := by
  unfold wsX6_lay_r1
  exact (List.forall_mem_cons.mpr ⟨lwm_14, (List.forall_mem_cons.mpr ⟨lwm_18, (List.forall_mem_cons.mpr ⟨lwm_142, (List.forall_mem_cons.mpr ⟨lwm_41, (List.forall_mem_cons.mpr ⟨lwm_42, (List.forall_mem_cons.mpr ⟨lwm_1, (List.forall_mem_cons.mpr ⟨lwm_10, (List.forall_mem_cons.mpr ⟨lwm_6, (List.forall_mem_cons.mpr ⟨lwm_5, (List.forall_mem_cons.mpr ⟨lwm_160, (List.forall_mem_cons.mpr ⟨lwm_159, (List.forall_mem_cons.mpr ⟨lwm_158, (List.forall_mem_cons.mpr ⟨lwm_15, (List.forall_mem_cons.mpr ⟨lwm_157, (List.forall_mem_cons.mpr ⟨lwm_156, (List.forall_mem_cons.mpr ⟨lwm_155, (List.forall_mem_cons.mpr ⟨lwm_154, (List.forall_mem_cons.mpr ⟨lwm_43, (List.forall_mem_cons.mpr ⟨lwm_153, (List.forall_mem_cons.mpr ⟨lwm_51, (List.forall_mem_cons.mpr ⟨lwm_50, (List.forall_mem_cons.mpr ⟨lwm_86, (List.forall_mem_cons.mpr ⟨lwm_77, (List.forall_mem_cons.mpr ⟨lwm_76, (fun _ h => absurd h List.not_mem_nil)⟩)⟩)⟩)⟩)⟩)⟩)⟩)⟩)⟩)⟩)⟩)⟩)⟩)⟩)⟩)⟩)⟩)⟩)⟩)⟩)⟩)⟩)⟩)⟩)
theorem lws_wsX6_lay_r2 : ∀ w ∈ wsX6_lay_r2, w ∈ wsL_law := by
  unfold wsX6_lay_r2
  exact (List.forall_mem_cons.mpr ⟨lwm_95, (List.forall_mem_cons.mpr ⟨lwm_152, (List.forall_mem_cons.mpr ⟨lwm_94, (List.forall_mem_cons.mpr ⟨lwm_93, (List.forall_mem_cons.mpr ⟨lwm_92, (List.forall_mem_cons.mpr ⟨lwm_175, (List.forall_mem_cons.mpr ⟨lwm_174, (List.forall_mem_cons.mpr ⟨lwm_173, (List.forall_mem_cons.mpr ⟨lwm_19, (List.forall_mem_cons.mpr ⟨lwm_172, (List.forall_mem_cons.mpr ⟨lwm_35, (List.forall_mem_cons.mpr ⟨lwm_171, (List.forall_mem_cons.mpr ⟨lwm_170, (List.forall_mem_cons.mpr ⟨lwm_169, (List.forall_mem_cons.mpr ⟨lwm_168, (List.forall_mem_cons.mpr ⟨lwm_167, (List.forall_mem_cons.mpr ⟨lwm_30, (List.forall_mem_cons.mpr ⟨lwm_166, (List.forall_mem_cons.mpr ⟨lwm_99, (List.forall_mem_cons.mpr ⟨lwm_98, (List.forall_mem_cons.mpr ⟨lwm_97, (List.forall_mem_cons.mpr ⟨lwm_165, (List.forall_mem_cons.mpr ⟨lwm_84, (List.forall_mem_cons.mpr ⟨lwm_83, (fun _ h => absurd h List.not_mem_nil)⟩)⟩)⟩)⟩)⟩)⟩)⟩)⟩)⟩)⟩)⟩)⟩)⟩)⟩)⟩)⟩)⟩)⟩)⟩)⟩)⟩)⟩)⟩)⟩)
theorem lws_wsX6_lay_r3 : ∀ w ∈ wsX6_lay_r3, w ∈ wsL_law := by
  unfold wsX6_lay_r3
  exact (List.forall_mem_cons.mpr ⟨lwm_82, (List.forall_mem_cons.mpr ⟨lwm_164, (List.forall_mem_cons.mpr ⟨lwm_163, (List.forall_mem_cons.mpr ⟨lwm_162, (List.forall_mem_cons.mpr ⟨lwm_161, (List.forall_mem_cons.mpr ⟨lwm_190, (List.forall_mem_cons.mpr ⟨lwm_89, (List.forall_mem_cons.mpr ⟨lwm_88, (List.forall_mem_cons.mpr ⟨lwm_87, (List.forall_mem_cons.mpr ⟨lwm_85, (List.forall_mem_cons.mpr ⟨lwm_189, (List.forall_mem_cons.mpr ⟨lwm_80, (List.forall_mem_cons.mpr ⟨lwm_79, (List.forall_mem_cons.mpr ⟨lwm_78, (List.forall_mem_cons.mpr ⟨lwm_188, (List.forall_mem_cons.mpr ⟨lwm_187, (List.forall_mem_cons.mpr ⟨lwm_186, (List.forall_mem_cons.mpr ⟨lwm_185, (List.forall_mem_cons.mpr ⟨lwm_184, (List.forall_mem_cons.mpr ⟨lwm_183, (List.forall_mem_cons.mpr ⟨lwm_182, (List.forall_mem_cons.mpr ⟨lwm_181, (List.forall_mem_cons.mpr ⟨lwm_180, (List.forall_mem_cons.mpr ⟨lwm_179, (fun _ h => absurd h List.not_mem_nil)⟩)⟩)⟩)⟩)⟩)⟩)⟩)⟩)⟩)⟩)⟩)⟩)⟩)⟩)⟩)⟩)⟩)⟩)⟩)⟩)⟩)⟩)⟩)⟩)
theorem lws_wsX6_lay_r4 : ∀ w ∈ wsX6_lay_r4, w ∈ wsL_law := by
  unfold wsX6_lay_r4
  exact (List.forall_mem_cons.mpr ⟨lwm_178, (List.forall_mem_cons.mpr ⟨lwm_177, (List.forall_mem_cons.mpr ⟨lwm_176, (List.forall_mem_cons.mpr ⟨lwm_49, (List.forall_mem_cons.mpr ⟨lwm_96, (List.forall_mem_cons.mpr ⟨lwm_194, (List.forall_mem_cons.mpr ⟨lwm_193, (List.forall_mem_cons.mpr ⟨lwm_192, (List.forall_mem_cons.mpr ⟨lwm_191, (List.forall_mem_cons.mpr ⟨lwm_223, (List.forall_mem_cons.mpr ⟨lwm_222, (List.forall_mem_cons.mpr ⟨lwm_221, (List.forall_mem_cons.mpr ⟨lwm_220, (List.forall_mem_cons.mpr ⟨lwm_219, (List.forall_mem_cons.mpr ⟨lwm_75, (List.forall_mem_cons.mpr ⟨lwm_74, (List.forall_mem_cons.mpr ⟨lwm_73, (List.forall_mem_cons.mpr ⟨lwm_2, (List.forall_mem_cons.mpr ⟨lwm_109, (List.forall_mem_cons.mpr ⟨lwm_108, (List.forall_mem_cons.mpr ⟨lwm_58, (List.forall_mem_cons.mpr ⟨lwm_57, (List.forall_mem_cons.mpr ⟨lwm_107, (List.forall_mem_cons.mpr ⟨lwm_106, (fun _ h => absurd h List.not_mem_nil)⟩)⟩)⟩)⟩)⟩)⟩)⟩)⟩)⟩)⟩)⟩)⟩)⟩)⟩)⟩)⟩)⟩)⟩)⟩)⟩)⟩)⟩)⟩)⟩)
theorem lws_wsX6_lay_r5 : ∀ w ∈ wsX6_lay_r5, w ∈ wsL_law := by
  unfold wsX6_lay_r5
  exact (List.forall_mem_cons.mpr ⟨lwm_105, (List.forall_mem_cons.mpr ⟨lwm_104, (List.forall_mem_cons.mpr ⟨lwm_103, (List.forall_mem_cons.mpr ⟨lwm_102, (List.forall_mem_cons.mpr ⟨lwm_101, (List.forall_mem_cons.mpr ⟨lwm_100, (List.forall_mem_cons.mpr ⟨lwm_233, (List.forall_mem_cons.mpr ⟨lwm_232, (List.forall_mem_cons.mpr ⟨lwm_231, (List.forall_mem_cons.mpr ⟨lwm_11, (List.forall_mem_cons.mpr ⟨lwm_230, (List.forall_mem_cons.mpr ⟨lwm_229, (List.forall_mem_cons.mpr ⟨lwm_228, (List.forall_mem_cons.mpr ⟨lwm_227, (List.forall_mem_cons.mpr ⟨lwm_226, (List.forall_mem_cons.mpr ⟨lwm_7, (List.forall_mem_cons.mpr ⟨lwm_225, (List.forall_mem_cons.mpr ⟨lwm_224, (fun _ h => absurd h List.not_mem_nil)⟩)⟩)⟩)⟩)⟩)⟩)⟩)⟩)⟩)⟩)⟩)⟩)⟩)⟩)⟩)⟩)⟩)⟩)
set_option maxRecDepth 20000 in
theorem ggL_law_X6_lay : GoodIn wsL_law wsX6_lay := goodIn_sub (by
  unfold wsX6_lay
  exact (List.forall_mem_cons.mpr ⟨lwm_218, (List.forall_mem_append.mpr ⟨(List.forall_mem_append.mpr ⟨(List.forall_mem_append.mpr ⟨(List.forall_mem_append.mpr ⟨(List.forall_mem_append.mpr ⟨(List.forall_mem_append.mpr ⟨(List.forall_mem_append.mpr ⟨(List.forall_mem_append.mpr ⟨lws_wsX6_lay_r1, (List.forall_mem_append.mpr ⟨lws_wsX6_lay_r2, (List.forall_mem_append.mpr ⟨lws_wsX6_lay_r3, (List.forall_mem_append.mpr ⟨lws_wsX6_lay_r4, lws_wsX6_lay_r5⟩)⟩)⟩)⟩), inlX6⟩), inlX5⟩), inlX3⟩), inlX2⟩), inlX1⟩), inlX0⟩), inlX4⟩)⟩)) (by decide +kernel)
theorem lws_wsX7_lay_r1 : ∀ w ∈ wsX7_lay_r1, w ∈ wsL_law := by
  unfold wsX7_lay_r1
  exact (List.forall_mem_cons.mpr ⟨lwm_206, (List.forall_mem_cons.mpr ⟨lwm_204, (List.forall_mem_cons.mpr ⟨lwm_125, (List.forall_mem_cons.mpr ⟨lwm_139, (List.forall_mem_cons.mpr ⟨lwm_124, (List.forall_mem_cons.mpr ⟨lwm_128, (List.forall_mem_cons.mpr ⟨lwm_123, (List.forall_mem_cons.mpr ⟨lwm_127, (List.forall_mem_cons.mpr ⟨lwm_122, (List.forall_mem_cons.mpr ⟨lwm_126, (List.forall_mem_cons.mpr ⟨lwm_205, (List.forall_mem_cons.mpr ⟨lwm_138, (List.forall_mem_cons.mpr ⟨lwm_239, (List.forall_mem_cons.mpr ⟨lwm_121, (List.forall_mem_cons.mpr ⟨lwm_203, (List.forall_mem_cons.mpr ⟨lwm_137, (List.forall_mem_cons.mpr ⟨lwm_202, (List.forall_mem_cons.mpr ⟨lwm_238, (List.forall_mem_cons.mpr ⟨lwm_120, (List.forall_mem_cons.mpr ⟨lwm_237, (List.forall_mem_cons.mpr ⟨lwm_236, (List.forall_mem_cons.mpr ⟨lwm_235, (List.forall_mem_cons.mpr ⟨lwm_211, (List.forall_mem_cons.mpr ⟨lwm_210, (fun _ h => absurd h List.not_mem_nil)⟩)⟩)⟩)⟩)⟩)⟩)⟩)⟩)⟩)⟩)⟩)⟩)⟩)⟩)⟩)⟩)⟩)⟩)⟩)⟩)⟩)⟩)⟩)⟩)
theorem lws_wsX7_lay_r2 : ∀ w ∈ wsX7_lay_r2, w ∈ wsL_law := by
  unfold wsX7_lay_r2
  exact (List.forall_mem_cons.mpr ⟨lwm_209, (List.forall_mem_cons.mpr ⟨lwm_133, (List.forall_mem_cons.mpr ⟨lwm_208, (List.forall_mem_cons.mpr ⟨lwm_207, (List.forall_mem_cons.mpr ⟨lwm_148, (List.forall_mem_cons.mpr ⟨lwm_201, (List.forall_mem_cons.mpr ⟨lwm_200, (List.forall_mem_cons.mpr ⟨lwm_199, (List.forall_mem_cons.mpr ⟨lwm_198, (List.forall_mem_cons.mpr ⟨lwm_130, (List.forall_mem_cons.mpr ⟨lwm_129, (List.forall_mem_cons.mpr ⟨lwm_197, (List.forall_mem_cons.mpr ⟨lwm_196, (List.forall_mem_cons.mpr ⟨lwm_217, (List.forall_mem_cons.mpr ⟨lwm_216, (List.forall_mem_cons.mpr ⟨lwm_146, (List.forall_mem_cons.mpr ⟨lwm_145, (List.forall_mem_cons.mpr ⟨lwm_144, (List.forall_mem_cons.mpr ⟨lwm_215, (List.forall_mem_cons.mpr ⟨lwm_214, (List.forall_mem_cons.mpr ⟨lwm_213, (List.forall_mem_cons.mpr ⟨lwm_212, (List.forall_mem_cons.mpr ⟨lwm_136, (List.forall_mem_cons.mpr ⟨lwm_135, (fun _ h => absurd h List.not_mem_nil)⟩)⟩)⟩)⟩)⟩)⟩)⟩)⟩)⟩)⟩)⟩)⟩)⟩)⟩)⟩)⟩)⟩)⟩)⟩)⟩)⟩)⟩)⟩)⟩)
theorem lws_wsX7_lay_r3 : ∀ w ∈ wsX7_lay_r3, w ∈ wsL_law := by
  unfold wsX7_lay_r3
  exact (List.forall_mem_cons.mpr ⟨lwm_134, (List.forall_mem_cons.mpr ⟨lwm_132, (fun _ h => absurd h List.not_mem_nil)⟩)⟩)
set_option maxRecDepth 20000 in
theorem ggL_law_X7_lay : GoodIn wsL_law wsX7_lay := goodIn_sub (by
  unfold wsX7_lay
  exact (List.forall_mem_cons.mpr ⟨lwm_234, (List.forall_mem_append.mpr ⟨(List.forall_mem_append.mpr ⟨lws_wsX7_lay_r1, (List.forall_mem_append.mpr ⟨lws_wsX7_lay_r2, lws_wsX7_lay_r3⟩)⟩), inlX7⟩)⟩)) (by decide +kernel)
theorem lws_wsX6_lantern_r1 : ∀ w ∈ wsX6_lantern_r1, w ∈ wsL_law := by
  unfold wsX6_lantern_r1
  exact (List.forall_mem_cons.mpr ⟨lwm_1, (List.forall_mem_cons.mpr ⟨lwm_42, (List.forall_mem_cons.mpr ⟨lwm_254, (List.forall_mem_cons.mpr ⟨lwm_253, (List.forall_mem_cons.mpr ⟨lwm_252, (List.forall_mem_cons.mpr ⟨lwm_251, (List.forall_mem_cons.mpr ⟨lwm_250, (List.forall_mem_cons.mpr ⟨lwm_249, (List.forall_mem_cons.mpr ⟨lwm_99, (List.forall_mem_cons.mpr ⟨lwm_98, (List.forall_mem_cons.mpr ⟨lwm_19, (List.forall_mem_cons.mpr ⟨lwm_97, (List.forall_mem_cons.mpr ⟨lwm_35, (List.forall_mem_cons.mpr ⟨lwm_248, (List.forall_mem_cons.mpr ⟨lwm_247, (List.forall_mem_cons.mpr ⟨lwm_246, (List.forall_mem_cons.mpr ⟨lwm_2, (List.forall_mem_cons.mpr ⟨lwm_245, (List.forall_mem_cons.mpr ⟨lwm_107, (List.forall_mem_cons.mpr ⟨lwm_244, (List.forall_mem_cons.mpr ⟨lwm_243, (List.forall_mem_cons.mpr ⟨lwm_242, (List.forall_mem_cons.mpr ⟨lwm_43, (List.forall_mem_cons.mpr ⟨lwm_241, (fun _ h => absurd h List.not_mem_nil)⟩)⟩)⟩)⟩)⟩)⟩)⟩)⟩)⟩)⟩)⟩)⟩)⟩)⟩)⟩)⟩)⟩)⟩)⟩)⟩)⟩)⟩)⟩)⟩)
theorem lws_wsX6_lantern_r2 : ∀ w ∈ wsX6_lantern_r2, w ∈ wsL_law := by
  unfold wsX6_lantern_r2
  exact (List.forall_mem_cons.mpr ⟨lwm_76, (fun _ h => absurd h List.not_mem_nil)⟩)
set_option maxRecDepth 20000 in
theorem ggL_law_X6_lantern : GoodIn wsL_law wsX6_lantern := goodIn_sub (by
  unfold wsX6_lantern
  exact (List.forall_mem_cons.mpr ⟨lwm_240, (List.forall_mem_append.mpr ⟨(List.forall_mem_append.mpr ⟨(List.forall_mem_append.mpr ⟨(List.forall_mem_append.mpr ⟨(List.forall_mem_append.mpr ⟨lws_wsX6_lantern_r1, lws_wsX6_lantern_r2⟩), inlX6⟩), inlX1⟩), inlX5⟩), inlX3⟩)⟩)) (by decide +kernel)
set_option maxRecDepth 20000 in
theorem ggL_law_X7_lantern : GoodIn wsL_law wsX7_lantern := goodIn_sub (by
  unfold wsX7_lantern
  exact (List.forall_mem_cons.mpr ⟨lwm_255, (List.forall_mem_append.mpr ⟨(List.forall_mem_cons.mpr ⟨lwm_139, (List.forall_mem_cons.mpr ⟨lwm_120, (List.forall_mem_cons.mpr ⟨lwm_123, (List.forall_mem_cons.mpr ⟨lwm_262, (List.forall_mem_cons.mpr ⟨lwm_261, (List.forall_mem_cons.mpr ⟨lwm_260, (List.forall_mem_cons.mpr ⟨lwm_133, (List.forall_mem_cons.mpr ⟨lwm_259, (List.forall_mem_cons.mpr ⟨lwm_146, (List.forall_mem_cons.mpr ⟨lwm_145, (List.forall_mem_cons.mpr ⟨lwm_144, (List.forall_mem_cons.mpr ⟨lwm_258, (List.forall_mem_cons.mpr ⟨lwm_257, (List.forall_mem_cons.mpr ⟨lwm_256, (fun _ h => absurd h List.not_mem_nil)⟩)⟩)⟩)⟩)⟩)⟩)⟩)⟩)⟩)⟩)⟩)⟩)⟩)⟩), inlX7⟩)⟩)) (by decide +kernel)
theorem lws_wsX6_post_r1 : ∀ w ∈ wsX6_post_r1, w ∈ wsL_law := by
  unfold wsX6_post_r1
  exact (List.forall_mem_cons.mpr ⟨lwm_42, (List.forall_mem_cons.mpr ⟨lwm_1, (List.forall_mem_cons.mpr ⟨lwm_254, (List.forall_mem_cons.mpr ⟨lwm_253, (List.forall_mem_cons.mpr ⟨lwm_252, (List.forall_mem_cons.mpr ⟨lwm_251, (List.forall_mem_cons.mpr ⟨lwm_250, (List.forall_mem_cons.mpr ⟨lwm_249, (List.forall_mem_cons.mpr ⟨lwm_99, (List.forall_mem_cons.mpr ⟨lwm_98, (List.forall_mem_cons.mpr ⟨lwm_19, (List.forall_mem_cons.mpr ⟨lwm_97, (List.forall_mem_cons.mpr ⟨lwm_35, (List.forall_mem_cons.mpr ⟨lwm_271, (List.forall_mem_cons.mpr ⟨lwm_270, (List.forall_mem_cons.mpr ⟨lwm_269, (List.forall_mem_cons.mpr ⟨lwm_2, (List.forall_mem_cons.mpr ⟨lwm_268, (List.forall_mem_cons.mpr ⟨lwm_108, (List.forall_mem_cons.mpr ⟨lwm_58, (List.forall_mem_cons.mpr ⟨lwm_267, (List.forall_mem_cons.mpr ⟨lwm_266, (List.forall_mem_cons.mpr ⟨lwm_265, (List.forall_mem_cons.mpr ⟨lwm_264, (fun _ h => absurd h List.not_mem_nil)⟩)⟩)⟩)⟩)⟩)⟩)⟩)⟩)⟩)⟩)⟩)⟩)⟩)⟩)⟩)⟩)⟩)⟩)⟩)⟩)⟩)⟩)⟩)⟩)
theorem lws_wsX6_post_r2 : ∀ w ∈ wsX6_post_r2, w ∈ wsL_law := by
  unfold wsX6_post_r2
  exact (List.forall_mem_cons.mpr ⟨lwm_283, (List.forall_mem_cons.mpr ⟨lwm_47, (List.forall_mem_cons.mpr ⟨lwm_282, (List.forall_mem_cons.mpr ⟨lwm_281, (List.forall_mem_cons.mpr ⟨lwm_280, (List.forall_mem_cons.mpr ⟨lwm_279, (List.forall_mem_cons.mpr ⟨lwm_278, (List.forall_mem_cons.mpr ⟨lwm_277, (List.forall_mem_cons.mpr ⟨lwm_43, (List.forall_mem_cons.mpr ⟨lwm_276, (List.forall_mem_cons.mpr ⟨lwm_86, (List.forall_mem_cons.mpr ⟨lwm_94, (List.forall_mem_cons.mpr ⟨lwm_152, (List.forall_mem_cons.mpr ⟨lwm_49, (List.forall_mem_cons.mpr ⟨lwm_96, (List.forall_mem_cons.mpr ⟨lwm_275, (List.forall_mem_cons.mpr ⟨lwm_274, (List.forall_mem_cons.mpr ⟨lwm_273, (List.forall_mem_cons.mpr ⟨lwm_272, (List.forall_mem_cons.mpr ⟨lwm_85, (List.forall_mem_cons.mpr ⟨lwm_84, (List.forall_mem_cons.mpr ⟨lwm_83, (List.forall_mem_cons.mpr ⟨lwm_82, (List.forall_mem_cons.mpr ⟨lwm_219, (fun _ h => absurd h List.not_mem_nil)⟩)⟩)⟩)⟩)⟩)⟩)⟩)⟩)⟩)⟩)⟩)⟩)⟩)⟩)⟩)⟩)⟩)⟩)⟩)⟩)⟩)⟩)⟩)⟩)
theorem lws_wsX6_post_r3 : ∀ w ∈ wsX6_post_r3, w ∈ wsL_law := by
  unfold wsX6_post_r3
  exact (List.forall_mem_cons.mpr ⟨lwm_305, (List.forall_mem_cons.mpr ⟨lwm_304, (List.forall_mem_cons.mpr ⟨lwm_303, (List.forall_mem_cons.mpr ⟨lwm_302, (List.forall_mem_cons.mpr ⟨lwm_95, (List.forall_mem_cons.mpr ⟨lwm_301, (List.forall_mem_cons.mpr ⟨lwm_300, (List.forall_mem_cons.mpr ⟨lwm_299, (List.forall_mem_cons.mpr ⟨lwm_298, (List.forall_mem_cons.mpr ⟨lwm_297, (List.forall_mem_cons.mpr ⟨lwm_296, (List.forall_mem_cons.mpr ⟨lwm_295, (List.forall_mem_cons.mpr ⟨lwm_294, (List.forall_mem_cons.mpr ⟨lwm_293, (List.forall_mem_cons.mpr ⟨lwm_292, (List.forall_mem_cons.mpr ⟨lwm_291, (List.forall_mem_cons.mpr ⟨lwm_290, (List.forall_mem_cons.mpr ⟨lwm_289, (List.forall_mem_cons.mpr ⟨lwm_288, (List.forall_mem_cons.mpr ⟨lwm_287, (List.forall_mem_cons.mpr ⟨lwm_286, (List.forall_mem_cons.mpr ⟨lwm_285, (List.forall_mem_cons.mpr ⟨lwm_57, (List.forall_mem_cons.mpr ⟨lwm_284, (fun _ h => absurd h List.not_mem_nil)⟩)⟩)⟩)⟩)⟩)⟩)⟩)⟩)⟩)⟩)⟩)⟩)⟩)⟩)⟩)⟩)⟩)⟩)⟩)⟩)⟩)⟩)⟩)⟩)
theorem lws_wsX6_post_r4 : ∀ w ∈ wsX6_post_r4, w ∈ wsL_law := by
  unfold wsX6_post_r4
  exact (List.forall_mem_cons.mpr ⟨lwm_310, (List.forall_mem_cons.mpr ⟨lwm_247, (List.forall_mem_cons.mpr ⟨lwm_246, (List.forall_mem_cons.mpr ⟨lwm_245, (List.forall_mem_cons.mpr ⟨lwm_107, (List.forall_mem_cons.mpr ⟨lwm_309, (List.forall_mem_cons.mpr ⟨lwm_308, (List.forall_mem_cons.mpr ⟨lwm_307, (List.forall_mem_cons.mpr ⟨lwm_306, (List.forall_mem_cons.mpr ⟨lwm_93, (List.forall_mem_cons.mpr ⟨lwm_92, (fun _ h => absurd h List.not_mem_nil)⟩)⟩)⟩)⟩)⟩)⟩)⟩)⟩)⟩)⟩)⟩)
set_option maxRecDepth 20000 in
theorem ggL_law_X6_post : GoodIn wsL_law wsX6_post := goodIn_sub (by
  unfold wsX6_post
  exact (List.forall_mem_cons.mpr ⟨lwm_263, (List.forall_mem_append.mpr ⟨(List.forall_mem_append.mpr ⟨(List.forall_mem_append.mpr ⟨(List.forall_mem_append.mpr ⟨(List.forall_mem_append.mpr ⟨lws_wsX6_post_r1, (List.forall_mem_append.mpr ⟨lws_wsX6_post_r2, (List.forall_mem_append.mpr ⟨lws_wsX6_post_r3, lws_wsX6_post_r4⟩)⟩)⟩), inlX6⟩), inlX5⟩), inlX3⟩), inlX1⟩)⟩)) (by decide +kernel)
theorem lws_wsX7_post_r1 : ∀ w ∈ wsX7_post_r1, w ∈ wsL_law := by
  unfold wsX7_post_r1
  exact (List.forall_mem_cons.mpr ⟨lwm_124, (List.forall_mem_cons.mpr ⟨lwm_120, (List.forall_mem_cons.mpr ⟨lwm_262, (List.forall_mem_cons.mpr ⟨lwm_261, (List.forall_mem_cons.mpr ⟨lwm_260, (List.forall_mem_cons.mpr ⟨lwm_133, (List.forall_mem_cons.mpr ⟨lwm_259, (List.forall_mem_cons.mpr ⟨lwm_139, (List.forall_mem_cons.mpr ⟨lwm_146, (List.forall_mem_cons.mpr ⟨lwm_145, (List.forall_mem_cons.mpr ⟨lwm_144, (List.forall_mem_cons.mpr ⟨lwm_319, (List.forall_mem_cons.mpr ⟨lwm_318, (List.forall_mem_cons.mpr ⟨lwm_317, (List.forall_mem_cons.mpr ⟨lwm_316, (List.forall_mem_cons.mpr ⟨lwm_137, (List.forall_mem_cons.mpr ⟨lwm_238, (List.forall_mem_cons.mpr ⟨lwm_113, (List.forall_mem_cons.mpr ⟨lwm_315, (List.forall_mem_cons.mpr ⟨lwm_314, (List.forall_mem_cons.mpr ⟨lwm_313, (List.forall_mem_cons.mpr ⟨lwm_312, (List.forall_mem_cons.mpr ⟨lwm_258, (List.forall_mem_cons.mpr ⟨lwm_257, (fun _ h => absurd h List.not_mem_nil)⟩)⟩)⟩)⟩)⟩)⟩)⟩)⟩)⟩)⟩)⟩)⟩)⟩)⟩)⟩)⟩)⟩)⟩)⟩)⟩)⟩)⟩)⟩)⟩)
theorem lws_wsX7_post_r2 : ∀ w ∈ wsX7_post_r2, w ∈ wsL_law := by
  unfold wsX7_post_r2
  exact (List.forall_mem_cons.mpr ⟨lwm_256, (fun _ h => absurd h List.not_mem_nil)⟩)
set_option maxRecDepth 20000 in
theorem ggL_law_X7_post : GoodIn wsL_law wsX7_post := goodIn_sub (by
  unfold wsX7_post
  exact (List.forall_mem_cons.mpr ⟨lwm_311, (List.forall_mem_append.mpr ⟨(List.forall_mem_append.mpr ⟨lws_wsX7_post_r1, lws_wsX7_post_r2⟩), inlX7⟩)⟩)) (by decide +kernel)
theorem lws_wsX6_fill_r1 : ∀ w ∈ wsX6_fill_r1, w ∈ wsL_law := by
  unfold wsX6_fill_r1
  exact (List.forall_mem_cons.mpr ⟨lwm_1, (List.forall_mem_cons.mpr ⟨lwm_42, (List.forall_mem_cons.mpr ⟨lwm_6, (List.forall_mem_cons.mpr ⟨lwm_254, (List.forall_mem_cons.mpr ⟨lwm_253, (List.forall_mem_cons.mpr ⟨lwm_252, (List.forall_mem_cons.mpr ⟨lwm_251, (List.forall_mem_cons.mpr ⟨lwm_250, (List.forall_mem_cons.mpr ⟨lwm_249, (List.forall_mem_cons.mpr ⟨lwm_99, (List.forall_mem_cons.mpr ⟨lwm_98, (List.forall_mem_cons.mpr ⟨lwm_19, (List.forall_mem_cons.mpr ⟨lwm_97, (List.forall_mem_cons.mpr ⟨lwm_35, (List.forall_mem_cons.mpr ⟨lwm_244, (List.forall_mem_cons.mpr ⟨lwm_243, (List.forall_mem_cons.mpr ⟨lwm_242, (List.forall_mem_cons.mpr ⟨lwm_43, (List.forall_mem_cons.mpr ⟨lwm_241, (List.forall_mem_cons.mpr ⟨lwm_76, (List.forall_mem_cons.mpr ⟨lwm_323, (List.forall_mem_cons.mpr ⟨lwm_322, (List.forall_mem_cons.mpr ⟨lwm_321, (List.forall_mem_cons.mpr ⟨lwm_7, (fun _ h => absurd h List.not_mem_nil)⟩)⟩)⟩)⟩)⟩)⟩)⟩)⟩)⟩)⟩)⟩)⟩)⟩)⟩)⟩)⟩)⟩)⟩)⟩)⟩)⟩)⟩)⟩)⟩)
theorem lws_wsX6_fill_r2 : ∀ w ∈ wsX6_fill_r2, w ∈ wsL_law := by
  unfold wsX6_fill_r2
  exact (List.forall_mem_cons.mpr ⟨lwm_332, (List.forall_mem_cons.mpr ⟨lwm_224, (List.forall_mem_cons.mpr ⟨lwm_63, (List.forall_mem_cons.mpr ⟨lwm_331, (List.forall_mem_cons.mpr ⟨lwm_330, (List.forall_mem_cons.mpr ⟨lwm_329, (List.forall_mem_cons.mpr ⟨lwm_328, (List.forall_mem_cons.mpr ⟨lwm_327, (List.forall_mem_cons.mpr ⟨lwm_326, (List.forall_mem_cons.mpr ⟨lwm_325, (List.forall_mem_cons.mpr ⟨lwm_2, (List.forall_mem_cons.mpr ⟨lwm_324, (List.forall_mem_cons.mpr ⟨lwm_108, (List.forall_mem_cons.mpr ⟨lwm_58, (List.forall_mem_cons.mpr ⟨lwm_57, (List.forall_mem_cons.mpr ⟨lwm_107, (List.forall_mem_cons.mpr ⟨lwm_106, (List.forall_mem_cons.mpr ⟨lwm_104, (List.forall_mem_cons.mpr ⟨lwm_103, (List.forall_mem_cons.mpr ⟨lwm_102, (List.forall_mem_cons.mpr ⟨lwm_101, (List.forall_mem_cons.mpr ⟨lwm_100, (List.forall_mem_cons.mpr ⟨lwm_141, (List.forall_mem_cons.mpr ⟨lwm_84, (fun _ h => absurd h List.not_mem_nil)⟩)⟩)⟩)⟩)⟩)⟩)⟩)⟩)⟩)⟩)⟩)⟩)⟩)⟩)⟩)⟩)⟩)⟩)⟩)⟩)⟩)⟩)⟩)⟩)
theorem lws_wsX6_fill_r3 : ∀ w ∈ wsX6_fill_r3, w ∈ wsL_law := by
  unfold wsX6_fill_r3
  exact (List.forall_mem_cons.mpr ⟨lwm_83, (List.forall_mem_cons.mpr ⟨lwm_82, (fun _ h => absurd h List.not_mem_nil)⟩)⟩)
set_option maxRecDepth 20000 in
theorem ggL_law_X6_fill : GoodIn wsL_law wsX6_fill := goodIn_sub (by
  unfold wsX6_fill
  exact (List.forall_mem_cons.mpr ⟨lwm_320, (List.forall_mem_append.mpr ⟨(List.forall_mem_append.mpr ⟨(List.forall_mem_append.mpr ⟨(List.forall_mem_append.mpr ⟨(List.forall_mem_append.mpr ⟨(List.forall_mem_append.mpr ⟨lws_wsX6_fill_r1, (List.forall_mem_append.mpr ⟨lws_wsX6_fill_r2, lws_wsX6_fill_r3⟩)⟩), inlX6⟩), inlX1⟩), inlX5⟩), inlX3⟩), inlX4⟩)⟩)) (by decide +kernel)
set_option maxRecDepth 20000 in
theorem ggL_law_X7_fill : GoodIn wsL_law wsX7_fill := goodIn_sub (by
  unfold wsX7_fill
  exact (List.forall_mem_cons.mpr ⟨lwm_333, (List.forall_mem_append.mpr ⟨(List.forall_mem_cons.mpr ⟨lwm_123, (List.forall_mem_cons.mpr ⟨lwm_120, (List.forall_mem_cons.mpr ⟨lwm_262, (List.forall_mem_cons.mpr ⟨lwm_261, (List.forall_mem_cons.mpr ⟨lwm_260, (List.forall_mem_cons.mpr ⟨lwm_133, (List.forall_mem_cons.mpr ⟨lwm_259, (List.forall_mem_cons.mpr ⟨lwm_139, (List.forall_mem_cons.mpr ⟨lwm_146, (List.forall_mem_cons.mpr ⟨lwm_145, (List.forall_mem_cons.mpr ⟨lwm_144, (List.forall_mem_cons.mpr ⟨lwm_340, (List.forall_mem_cons.mpr ⟨lwm_339, (List.forall_mem_cons.mpr ⟨lwm_338, (List.forall_mem_cons.mpr ⟨lwm_337, (List.forall_mem_cons.mpr ⟨lwm_236, (List.forall_mem_cons.mpr ⟨lwm_118, (List.forall_mem_cons.mpr ⟨lwm_336, (List.forall_mem_cons.mpr ⟨lwm_335, (List.forall_mem_cons.mpr ⟨lwm_334, (fun _ h => absurd h List.not_mem_nil)⟩)⟩)⟩)⟩)⟩)⟩)⟩)⟩)⟩)⟩)⟩)⟩)⟩)⟩)⟩)⟩)⟩)⟩)⟩)⟩), inlX7⟩)⟩)) (by decide +kernel)
theorem lws_wsX6_light_r1 : ∀ w ∈ wsX6_light_r1, w ∈ wsL_law := by
  unfold wsX6_light_r1
  exact (List.forall_mem_cons.mpr ⟨lwm_1, (List.forall_mem_cons.mpr ⟨lwm_6, (List.forall_mem_cons.mpr ⟨lwm_254, (List.forall_mem_cons.mpr ⟨lwm_253, (List.forall_mem_cons.mpr ⟨lwm_252, (List.forall_mem_cons.mpr ⟨lwm_251, (List.forall_mem_cons.mpr ⟨lwm_250, (List.forall_mem_cons.mpr ⟨lwm_42, (List.forall_mem_cons.mpr ⟨lwm_248, (List.forall_mem_cons.mpr ⟨lwm_247, (List.forall_mem_cons.mpr ⟨lwm_246, (List.forall_mem_cons.mpr ⟨lwm_2, (List.forall_mem_cons.mpr ⟨lwm_245, (List.forall_mem_cons.mpr ⟨lwm_107, (List.forall_mem_cons.mpr ⟨lwm_249, (List.forall_mem_cons.mpr ⟨lwm_99, (List.forall_mem_cons.mpr ⟨lwm_98, (List.forall_mem_cons.mpr ⟨lwm_19, (List.forall_mem_cons.mpr ⟨lwm_97, (List.forall_mem_cons.mpr ⟨lwm_35, (List.forall_mem_cons.mpr ⟨lwm_323, (List.forall_mem_cons.mpr ⟨lwm_322, (List.forall_mem_cons.mpr ⟨lwm_321, (List.forall_mem_cons.mpr ⟨lwm_7, (fun _ h => absurd h List.not_mem_nil)⟩)⟩)⟩)⟩)⟩)⟩)⟩)⟩)⟩)⟩)⟩)⟩)⟩)⟩)⟩)⟩)⟩)⟩)⟩)⟩)⟩)⟩)⟩)⟩)
theorem lws_wsX6_light_r2 : ∀ w ∈ wsX6_light_r2, w ∈ wsL_law := by
  unfold wsX6_light_r2
  exact (List.forall_mem_cons.mpr ⟨lwm_332, (List.forall_mem_cons.mpr ⟨lwm_224, (List.forall_mem_cons.mpr ⟨lwm_63, (List.forall_mem_cons.mpr ⟨lwm_331, (List.forall_mem_cons.mpr ⟨lwm_330, (List.forall_mem_cons.mpr ⟨lwm_329, (List.forall_mem_cons.mpr ⟨lwm_328, (List.forall_mem_cons.mpr ⟨lwm_327, (List.forall_mem_cons.mpr ⟨lwm_326, (List.forall_mem_cons.mpr ⟨lwm_325, (List.forall_mem_cons.mpr ⟨lwm_324, (List.forall_mem_cons.mpr ⟨lwm_108, (List.forall_mem_cons.mpr ⟨lwm_58, (List.forall_mem_cons.mpr ⟨lwm_57, (List.forall_mem_cons.mpr ⟨lwm_106, (List.forall_mem_cons.mpr ⟨lwm_104, (List.forall_mem_cons.mpr ⟨lwm_103, (List.forall_mem_cons.mpr ⟨lwm_102, (List.forall_mem_cons.mpr ⟨lwm_101, (List.forall_mem_cons.mpr ⟨lwm_100, (List.forall_mem_cons.mpr ⟨lwm_345, (List.forall_mem_cons.mpr ⟨lwm_344, (List.forall_mem_cons.mpr ⟨lwm_343, (List.forall_mem_cons.mpr ⟨lwm_342, (fun _ h => absurd h List.not_mem_nil)⟩)⟩)⟩)⟩)⟩)⟩)⟩)⟩)⟩)⟩)⟩)⟩)⟩)⟩)⟩)⟩)⟩)⟩)⟩)⟩)⟩)⟩)⟩)⟩)
theorem lws_wsX6_light_r3 : ∀ w ∈ wsX6_light_r3, w ∈ wsL_law := by
  unfold wsX6_light_r3
  exact (List.forall_mem_cons.mpr ⟨lwm_352, (List.forall_mem_cons.mpr ⟨lwm_351, (List.forall_mem_cons.mpr ⟨lwm_350, (List.forall_mem_cons.mpr ⟨lwm_349, (List.forall_mem_cons.mpr ⟨lwm_348, (List.forall_mem_cons.mpr ⟨lwm_347, (List.forall_mem_cons.mpr ⟨lwm_346, (fun _ h => absurd h List.not_mem_nil)⟩)⟩)⟩)⟩)⟩)⟩)⟩)
set_option maxRecDepth 20000 in
theorem ggL_law_X6_light : GoodIn wsL_law wsX6_light := goodIn_sub (by
  unfold wsX6_light
  exact (List.forall_mem_cons.mpr ⟨lwm_341, (List.forall_mem_append.mpr ⟨(List.forall_mem_append.mpr ⟨(List.forall_mem_append.mpr ⟨(List.forall_mem_append.mpr ⟨(List.forall_mem_append.mpr ⟨(List.forall_mem_append.mpr ⟨lws_wsX6_light_r1, (List.forall_mem_append.mpr ⟨lws_wsX6_light_r2, lws_wsX6_light_r3⟩)⟩), inlX6⟩), inlX1⟩), inlX5⟩), inlX3⟩), inlX4⟩)⟩)) (by decide +kernel)
set_option maxRecDepth 20000 in
theorem ggL_law_X7_light : GoodIn wsL_law wsX7_light := goodIn_sub (by
  unfold wsX7_light
  exact (List.forall_mem_cons.mpr ⟨lwm_353, (List.forall_mem_append.mpr ⟨(List.forall_mem_cons.mpr ⟨lwm_120, (List.forall_mem_cons.mpr ⟨lwm_262, (List.forall_mem_cons.mpr ⟨lwm_261, (List.forall_mem_cons.mpr ⟨lwm_260, (List.forall_mem_cons.mpr ⟨lwm_133, (List.forall_mem_cons.mpr ⟨lwm_259, (List.forall_mem_cons.mpr ⟨lwm_139, (List.forall_mem_cons.mpr ⟨lwm_146, (List.forall_mem_cons.mpr ⟨lwm_145, (List.forall_mem_cons.mpr ⟨lwm_144, (List.forall_mem_cons.mpr ⟨lwm_340, (List.forall_mem_cons.mpr ⟨lwm_339, (List.forall_mem_cons.mpr ⟨lwm_338, (List.forall_mem_cons.mpr ⟨lwm_337, (List.forall_mem_cons.mpr ⟨lwm_236, (List.forall_mem_cons.mpr ⟨lwm_118, (List.forall_mem_cons.mpr ⟨lwm_336, (List.forall_mem_cons.mpr ⟨lwm_335, (List.forall_mem_cons.mpr ⟨lwm_334, (List.forall_mem_cons.mpr ⟨lwm_357, (List.forall_mem_cons.mpr ⟨lwm_356, (List.forall_mem_cons.mpr ⟨lwm_355, (List.forall_mem_cons.mpr ⟨lwm_354, (fun _ h => absurd h List.not_mem_nil)⟩)⟩)⟩)⟩)⟩)⟩)⟩)⟩)⟩)⟩)⟩)⟩)⟩)⟩)⟩)⟩)⟩)⟩)⟩)⟩)⟩)⟩)⟩), inlX7⟩)⟩)) (by decide +kernel)
theorem lws_wsX6_change_r1 : ∀ w ∈ wsX6_change_r1, w ∈ wsL_law := by
  unfold wsX6_change_r1
  exact (List.forall_mem_cons.mpr ⟨lwm_6, (List.forall_mem_cons.mpr ⟨lwm_1, (List.forall_mem_cons.mpr ⟨lwm_254, (List.forall_mem_cons.mpr ⟨lwm_253, (List.forall_mem_cons.mpr ⟨lwm_252, (List.forall_mem_cons.mpr ⟨lwm_251, (List.forall_mem_cons.mpr ⟨lwm_250, (List.forall_mem_cons.mpr ⟨lwm_42, (List.forall_mem_cons.mpr ⟨lwm_323, (List.forall_mem_cons.mpr ⟨lwm_322, (List.forall_mem_cons.mpr ⟨lwm_321, (List.forall_mem_cons.mpr ⟨lwm_7, (List.forall_mem_cons.mpr ⟨lwm_332, (List.forall_mem_cons.mpr ⟨lwm_224, (List.forall_mem_cons.mpr ⟨lwm_63, (List.forall_mem_cons.mpr ⟨lwm_331, (List.forall_mem_cons.mpr ⟨lwm_330, (List.forall_mem_cons.mpr ⟨lwm_329, (List.forall_mem_cons.mpr ⟨lwm_328, (List.forall_mem_cons.mpr ⟨lwm_327, (List.forall_mem_cons.mpr ⟨lwm_326, (List.forall_mem_cons.mpr ⟨lwm_325, (List.forall_mem_cons.mpr ⟨lwm_2, (List.forall_mem_cons.mpr ⟨lwm_324, (fun _ h => absurd h List.not_mem_nil)⟩)⟩)⟩)⟩)⟩)⟩)⟩)⟩)⟩)⟩)⟩)⟩)⟩)⟩)⟩)⟩)⟩)⟩)⟩)⟩)⟩)⟩)⟩)⟩)
theorem lws_wsX6_change_r2 : ∀ w ∈ wsX6_change_r2, w ∈ wsL_law := by
  unfold wsX6_change_r2
  exact (List.forall_mem_cons.mpr ⟨lwm_108, (List.forall_mem_cons.mpr ⟨lwm_58, (List.forall_mem_cons.mpr ⟨lwm_57, (List.forall_mem_cons.mpr ⟨lwm_107, (List.forall_mem_cons.mpr ⟨lwm_106, (List.forall_mem_cons.mpr ⟨lwm_104, (List.forall_mem_cons.mpr ⟨lwm_103, (List.forall_mem_cons.mpr ⟨lwm_102, (List.forall_mem_cons.mpr ⟨lwm_19, (List.forall_mem_cons.mpr ⟨lwm_101, (List.forall_mem_cons.mpr ⟨lwm_35, (List.forall_mem_cons.mpr ⟨lwm_100, (List.forall_mem_cons.mpr ⟨lwm_99, (List.forall_mem_cons.mpr ⟨lwm_98, (List.forall_mem_cons.mpr ⟨lwm_97, (List.forall_mem_cons.mpr ⟨lwm_271, (List.forall_mem_cons.mpr ⟨lwm_270, (List.forall_mem_cons.mpr ⟨lwm_269, (List.forall_mem_cons.mpr ⟨lwm_268, (List.forall_mem_cons.mpr ⟨lwm_267, (List.forall_mem_cons.mpr ⟨lwm_141, (List.forall_mem_cons.mpr ⟨lwm_84, (List.forall_mem_cons.mpr ⟨lwm_83, (List.forall_mem_cons.mpr ⟨lwm_82, (fun _ h => absurd h List.not_mem_nil)⟩)⟩)⟩)⟩)⟩)⟩)⟩)⟩)⟩)⟩)⟩)⟩)⟩)⟩)⟩)⟩)⟩)⟩)⟩)⟩)⟩)⟩)⟩)⟩)
set_option maxRecDepth 20000 in
theorem ggL_law_X6_change : GoodIn wsL_law wsX6_change := goodIn_sub (by
  unfold wsX6_change
  exact (List.forall_mem_cons.mpr ⟨lwm_358, (List.forall_mem_append.mpr ⟨(List.forall_mem_append.mpr ⟨(List.forall_mem_append.mpr ⟨(List.forall_mem_append.mpr ⟨(List.forall_mem_append.mpr ⟨(List.forall_mem_append.mpr ⟨lws_wsX6_change_r1, lws_wsX6_change_r2⟩), inlX6⟩), inlX1⟩), inlX5⟩), inlX4⟩), inlX3⟩)⟩)) (by decide +kernel)
set_option maxRecDepth 20000 in
theorem ggL_law_X7_change : GoodIn wsL_law wsX7_change := goodIn_sub (by
  unfold wsX7_change
  exact (List.forall_mem_cons.mpr ⟨lwm_359, (List.forall_mem_append.mpr ⟨(List.forall_mem_cons.mpr ⟨lwm_120, (List.forall_mem_cons.mpr ⟨lwm_262, (List.forall_mem_cons.mpr ⟨lwm_261, (List.forall_mem_cons.mpr ⟨lwm_260, (List.forall_mem_cons.mpr ⟨lwm_133, (List.forall_mem_cons.mpr ⟨lwm_259, (List.forall_mem_cons.mpr ⟨lwm_139, (List.forall_mem_cons.mpr ⟨lwm_146, (List.forall_mem_cons.mpr ⟨lwm_145, (List.forall_mem_cons.mpr ⟨lwm_144, (List.forall_mem_cons.mpr ⟨lwm_340, (List.forall_mem_cons.mpr ⟨lwm_339, (List.forall_mem_cons.mpr ⟨lwm_338, (List.forall_mem_cons.mpr ⟨lwm_337, (List.forall_mem_cons.mpr ⟨lwm_236, (List.forall_mem_cons.mpr ⟨lwm_118, (List.forall_mem_cons.mpr ⟨lwm_336, (List.forall_mem_cons.mpr ⟨lwm_335, (List.forall_mem_cons.mpr ⟨lwm_334, (fun _ h => absurd h List.not_mem_nil)⟩)⟩)⟩)⟩)⟩)⟩)⟩)⟩)⟩)⟩)⟩)⟩)⟩)⟩)⟩)⟩)⟩)⟩)⟩), inlX7⟩)⟩)) (by decide +kernel)
theorem lws_wsX6_bells_r1 : ∀ w ∈ wsX6_bells_r1, w ∈ wsL_law := by
  unfold wsX6_bells_r1
  exact (List.forall_mem_cons.mpr ⟨lwm_1, (List.forall_mem_cons.mpr ⟨lwm_6, (List.forall_mem_cons.mpr ⟨lwm_42, (List.forall_mem_cons.mpr ⟨lwm_47, (List.forall_mem_cons.mpr ⟨lwm_323, (List.forall_mem_cons.mpr ⟨lwm_322, (List.forall_mem_cons.mpr ⟨lwm_321, (List.forall_mem_cons.mpr ⟨lwm_7, (List.forall_mem_cons.mpr ⟨lwm_332, (List.forall_mem_cons.mpr ⟨lwm_224, (List.forall_mem_cons.mpr ⟨lwm_63, (List.forall_mem_cons.mpr ⟨lwm_331, (List.forall_mem_cons.mpr ⟨lwm_330, (List.forall_mem_cons.mpr ⟨lwm_329, (List.forall_mem_cons.mpr ⟨lwm_328, (List.forall_mem_cons.mpr ⟨lwm_327, (List.forall_mem_cons.mpr ⟨lwm_326, (List.forall_mem_cons.mpr ⟨lwm_325, (List.forall_mem_cons.mpr ⟨lwm_2, (List.forall_mem_cons.mpr ⟨lwm_324, (List.forall_mem_cons.mpr ⟨lwm_108, (List.forall_mem_cons.mpr ⟨lwm_58, (List.forall_mem_cons.mpr ⟨lwm_57, (List.forall_mem_cons.mpr ⟨lwm_107, (fun _ h => absurd h List.not_mem_nil)⟩)⟩)⟩)⟩)⟩)⟩)⟩)⟩)⟩)⟩)⟩)⟩)⟩)⟩)⟩)⟩)⟩)⟩)⟩)⟩)⟩)⟩)⟩)⟩)
theorem lws_wsX6_bells_r2 : ∀ w ∈ wsX6_bells_r2, w ∈ wsL_law := by
  unfold wsX6_bells_r2
  exact (List.forall_mem_cons.mpr ⟨lwm_106, (List.forall_mem_cons.mpr ⟨lwm_104, (List.forall_mem_cons.mpr ⟨lwm_103, (List.forall_mem_cons.mpr ⟨lwm_102, (List.forall_mem_cons.mpr ⟨lwm_19, (List.forall_mem_cons.mpr ⟨lwm_101, (List.forall_mem_cons.mpr ⟨lwm_35, (List.forall_mem_cons.mpr ⟨lwm_100, (List.forall_mem_cons.mpr ⟨lwm_99, (List.forall_mem_cons.mpr ⟨lwm_98, (List.forall_mem_cons.mpr ⟨lwm_97, (List.forall_mem_cons.mpr ⟨lwm_279, (List.forall_mem_cons.mpr ⟨lwm_278, (List.forall_mem_cons.mpr ⟨lwm_277, (List.forall_mem_cons.mpr ⟨lwm_43, (List.forall_mem_cons.mpr ⟨lwm_276, (List.forall_mem_cons.mpr ⟨lwm_86, (List.forall_mem_cons.mpr ⟨lwm_94, (List.forall_mem_cons.mpr ⟨lwm_152, (List.forall_mem_cons.mpr ⟨lwm_49, (List.forall_mem_cons.mpr ⟨lwm_96, (List.forall_mem_cons.mpr ⟨lwm_275, (List.forall_mem_cons.mpr ⟨lwm_274, (List.forall_mem_cons.mpr ⟨lwm_273, (fun _ h => absurd h List.not_mem_nil)⟩)⟩)⟩)⟩)⟩)⟩)⟩)⟩)⟩)⟩)⟩)⟩)⟩)⟩)⟩)⟩)⟩)⟩)⟩)⟩)⟩)⟩)⟩)⟩)
theorem lws_wsX6_bells_r3 : ∀ w ∈ wsX6_bells_r3, w ∈ wsL_law := by
  unfold wsX6_bells_r3
  exact (List.forall_mem_cons.mpr ⟨lwm_272, (List.forall_mem_cons.mpr ⟨lwm_85, (List.forall_mem_cons.mpr ⟨lwm_84, (List.forall_mem_cons.mpr ⟨lwm_83, (List.forall_mem_cons.mpr ⟨lwm_82, (List.forall_mem_cons.mpr ⟨lwm_219, (List.forall_mem_cons.mpr ⟨lwm_305, (List.forall_mem_cons.mpr ⟨lwm_304, (List.forall_mem_cons.mpr ⟨lwm_303, (List.forall_mem_cons.mpr ⟨lwm_302, (List.forall_mem_cons.mpr ⟨lwm_95, (List.forall_mem_cons.mpr ⟨lwm_301, (List.forall_mem_cons.mpr ⟨lwm_300, (List.forall_mem_cons.mpr ⟨lwm_299, (List.forall_mem_cons.mpr ⟨lwm_298, (List.forall_mem_cons.mpr ⟨lwm_297, (List.forall_mem_cons.mpr ⟨lwm_296, (List.forall_mem_cons.mpr ⟨lwm_295, (List.forall_mem_cons.mpr ⟨lwm_294, (List.forall_mem_cons.mpr ⟨lwm_364, (List.forall_mem_cons.mpr ⟨lwm_363, (List.forall_mem_cons.mpr ⟨lwm_362, (List.forall_mem_cons.mpr ⟨lwm_361, (List.forall_mem_cons.mpr ⟨lwm_284, (fun _ h => absurd h List.not_mem_nil)⟩)⟩)⟩)⟩)⟩)⟩)⟩)⟩)⟩)⟩)⟩)⟩)⟩)⟩)⟩)⟩)⟩)⟩)⟩)⟩)⟩)⟩)⟩)⟩)
theorem lws_wsX6_bells_r4 : ∀ w ∈ wsX6_bells_r4, w ∈ wsL_law := by
  unfold wsX6_bells_r4
  exact (List.forall_mem_cons.mpr ⟨lwm_267, (List.forall_mem_cons.mpr ⟨lwm_310, (List.forall_mem_cons.mpr ⟨lwm_247, (List.forall_mem_cons.mpr ⟨lwm_246, (List.forall_mem_cons.mpr ⟨lwm_245, (List.forall_mem_cons.mpr ⟨lwm_366, (List.forall_mem_cons.mpr ⟨lwm_287, (List.forall_mem_cons.mpr ⟨lwm_286, (List.forall_mem_cons.mpr ⟨lwm_285, (List.forall_mem_cons.mpr ⟨lwm_105, (List.forall_mem_cons.mpr ⟨lwm_365, (fun _ h => absurd h List.not_mem_nil)⟩)⟩)⟩)⟩)⟩)⟩)⟩)⟩)⟩)⟩)⟩)
set_option maxRecDepth 20000 in
theorem ggL_law_X6_bells : GoodIn wsL_law wsX6_bells := goodIn_sub (by
  unfold wsX6_bells
  exact (List.forall_mem_cons.mpr ⟨lwm_360, (List.forall_mem_append.mpr ⟨(List.forall_mem_append.mpr ⟨(List.forall_mem_append.mpr ⟨(List.forall_mem_append.mpr ⟨(List.forall_mem_append.mpr ⟨(List.forall_mem_append.mpr ⟨lws_wsX6_bells_r1, (List.forall_mem_append.mpr ⟨lws_wsX6_bells_r2, (List.forall_mem_append.mpr ⟨lws_wsX6_bells_r3, lws_wsX6_bells_r4⟩)⟩)⟩), inlX6⟩), inlX1⟩), inlX4⟩), inlX3⟩), inlX5⟩)⟩)) (by decide +kernel)
theorem lws_wsX7_bells_r1 : ∀ w ∈ wsX7_bells_r1, w ∈ wsL_law := by
  unfold wsX7_bells_r1
  exact (List.forall_mem_cons.mpr ⟨lwm_120, (List.forall_mem_cons.mpr ⟨lwm_146, (List.forall_mem_cons.mpr ⟨lwm_145, (List.forall_mem_cons.mpr ⟨lwm_133, (List.forall_mem_cons.mpr ⟨lwm_144, (List.forall_mem_cons.mpr ⟨lwm_340, (List.forall_mem_cons.mpr ⟨lwm_339, (List.forall_mem_cons.mpr ⟨lwm_338, (List.forall_mem_cons.mpr ⟨lwm_337, (List.forall_mem_cons.mpr ⟨lwm_236, (List.forall_mem_cons.mpr ⟨lwm_118, (List.forall_mem_cons.mpr ⟨lwm_336, (List.forall_mem_cons.mpr ⟨lwm_335, (List.forall_mem_cons.mpr ⟨lwm_334, (List.forall_mem_cons.mpr ⟨lwm_371, (List.forall_mem_cons.mpr ⟨lwm_370, (List.forall_mem_cons.mpr ⟨lwm_369, (List.forall_mem_cons.mpr ⟨lwm_368, (List.forall_mem_cons.mpr ⟨lwm_139, (List.forall_mem_cons.mpr ⟨lwm_112, (List.forall_mem_cons.mpr ⟨lwm_138, (List.forall_mem_cons.mpr ⟨lwm_239, (List.forall_mem_cons.mpr ⟨lwm_121, (List.forall_mem_cons.mpr ⟨lwm_115, (fun _ h => absurd h List.not_mem_nil)⟩)⟩)⟩)⟩)⟩)⟩)⟩)⟩)⟩)⟩)⟩)⟩)⟩)⟩)⟩)⟩)⟩)⟩)⟩)⟩)⟩)⟩)⟩)⟩)
theorem lws_wsX7_bells_r2 : ∀ w ∈ wsX7_bells_r2, w ∈ wsL_law := by
  unfold wsX7_bells_r2
  exact (List.forall_mem_cons.mpr ⟨lwm_114, (fun _ h => absurd h List.not_mem_nil)⟩)
set_option maxRecDepth 20000 in
theorem ggL_law_X7_bells : GoodIn wsL_law wsX7_bells := goodIn_sub (by
  unfold wsX7_bells
  exact (List.forall_mem_cons.mpr ⟨lwm_367, (List.forall_mem_append.mpr ⟨(List.forall_mem_append.mpr ⟨lws_wsX7_bells_r1, lws_wsX7_bells_r2⟩), inlX7⟩)⟩)) (by decide +kernel)
theorem lws_wsX6_undo_r1 : ∀ w ∈ wsX6_undo_r1, w ∈ wsL_law := by
  unfold wsX6_undo_r1
  exact (List.forall_mem_cons.mpr ⟨lwm_6, (List.forall_mem_cons.mpr ⟨lwm_1, (List.forall_mem_cons.mpr ⟨lwm_376, (List.forall_mem_cons.mpr ⟨lwm_375, (List.forall_mem_cons.mpr ⟨lwm_374, (List.forall_mem_cons.mpr ⟨lwm_7, (List.forall_mem_cons.mpr ⟨lwm_373, (List.forall_mem_cons.mpr ⟨lwm_224, (List.forall_mem_cons.mpr ⟨lwm_63, (List.forall_mem_cons.mpr ⟨lwm_327, (List.forall_mem_cons.mpr ⟨lwm_326, (List.forall_mem_cons.mpr ⟨lwm_325, (List.forall_mem_cons.mpr ⟨lwm_2, (List.forall_mem_cons.mpr ⟨lwm_324, (List.forall_mem_cons.mpr ⟨lwm_108, (List.forall_mem_cons.mpr ⟨lwm_58, (List.forall_mem_cons.mpr ⟨lwm_57, (List.forall_mem_cons.mpr ⟨lwm_107, (List.forall_mem_cons.mpr ⟨lwm_106, (List.forall_mem_cons.mpr ⟨lwm_104, (List.forall_mem_cons.mpr ⟨lwm_103, (List.forall_mem_cons.mpr ⟨lwm_102, (List.forall_mem_cons.mpr ⟨lwm_19, (List.forall_mem_cons.mpr ⟨lwm_101, (fun _ h => absurd h List.not_mem_nil)⟩)⟩)⟩)⟩)⟩)⟩)⟩)⟩)⟩)⟩)⟩)⟩)⟩)⟩)⟩)⟩)⟩)⟩)⟩)⟩)⟩)⟩)⟩)⟩)
theorem lws_wsX6_undo_r2 : ∀ w ∈ wsX6_undo_r2, w ∈ wsL_law := by
  unfold wsX6_undo_r2
  exact (List.forall_mem_cons.mpr ⟨lwm_35, (List.forall_mem_cons.mpr ⟨lwm_100, (List.forall_mem_cons.mpr ⟨lwm_99, (List.forall_mem_cons.mpr ⟨lwm_98, (List.forall_mem_cons.mpr ⟨lwm_97, (fun _ h => absurd h List.not_mem_nil)⟩)⟩)⟩)⟩)⟩)
set_option maxRecDepth 20000 in
theorem ggL_law_X6_undo : GoodIn wsL_law wsX6_undo := goodIn_sub (by
  unfold wsX6_undo
  exact (List.forall_mem_cons.mpr ⟨lwm_372, (List.forall_mem_append.mpr ⟨(List.forall_mem_append.mpr ⟨(List.forall_mem_append.mpr ⟨(List.forall_mem_append.mpr ⟨(List.forall_mem_append.mpr ⟨lws_wsX6_undo_r1, lws_wsX6_undo_r2⟩), inlX6⟩), inlX4⟩), inlX1⟩), inlX3⟩)⟩)) (by decide +kernel)
set_option maxRecDepth 20000 in
theorem ggL_law_X7_undo : GoodIn wsL_law wsX7_undo := goodIn_sub (by
  unfold wsX7_undo
  exact (List.forall_mem_cons.mpr ⟨lwm_377, (List.forall_mem_append.mpr ⟨(List.forall_mem_cons.mpr ⟨lwm_236, (List.forall_mem_cons.mpr ⟨lwm_118, (List.forall_mem_cons.mpr ⟨lwm_120, (List.forall_mem_cons.mpr ⟨lwm_336, (List.forall_mem_cons.mpr ⟨lwm_335, (List.forall_mem_cons.mpr ⟨lwm_133, (List.forall_mem_cons.mpr ⟨lwm_334, (fun _ h => absurd h List.not_mem_nil)⟩)⟩)⟩)⟩)⟩)⟩)⟩), inlX7⟩)⟩)) (by decide +kernel)
theorem lws_wsX6_warm_r1 : ∀ w ∈ wsX6_warm_r1, w ∈ wsL_law := by
  unfold wsX6_warm_r1
  exact (List.forall_mem_cons.mpr ⟨lwm_42, (List.forall_mem_cons.mpr ⟨lwm_1, (List.forall_mem_cons.mpr ⟨lwm_47, (List.forall_mem_cons.mpr ⟨lwm_282, (List.forall_mem_cons.mpr ⟨lwm_281, (List.forall_mem_cons.mpr ⟨lwm_251, (List.forall_mem_cons.mpr ⟨lwm_280, (List.forall_mem_cons.mpr ⟨lwm_254, (List.forall_mem_cons.mpr ⟨lwm_253, (List.forall_mem_cons.mpr ⟨lwm_252, (List.forall_mem_cons.mpr ⟨lwm_250, (List.forall_mem_cons.mpr ⟨lwm_279, (List.forall_mem_cons.mpr ⟨lwm_278, (List.forall_mem_cons.mpr ⟨lwm_277, (List.forall_mem_cons.mpr ⟨lwm_43, (List.forall_mem_cons.mpr ⟨lwm_276, (List.forall_mem_cons.mpr ⟨lwm_86, (List.forall_mem_cons.mpr ⟨lwm_94, (List.forall_mem_cons.mpr ⟨lwm_152, (List.forall_mem_cons.mpr ⟨lwm_49, (List.forall_mem_cons.mpr ⟨lwm_96, (List.forall_mem_cons.mpr ⟨lwm_275, (List.forall_mem_cons.mpr ⟨lwm_274, (List.forall_mem_cons.mpr ⟨lwm_273, (fun _ h => absurd h List.not_mem_nil)⟩)⟩)⟩)⟩)⟩)⟩)⟩)⟩)⟩)⟩)⟩)⟩)⟩)⟩)⟩)⟩)⟩)⟩)⟩)⟩)⟩)⟩)⟩)⟩)
theorem lws_wsX6_warm_r2 : ∀ w ∈ wsX6_warm_r2, w ∈ wsL_law := by
  unfold wsX6_warm_r2
  exact (List.forall_mem_cons.mpr ⟨lwm_272, (List.forall_mem_cons.mpr ⟨lwm_85, (List.forall_mem_cons.mpr ⟨lwm_84, (List.forall_mem_cons.mpr ⟨lwm_83, (List.forall_mem_cons.mpr ⟨lwm_19, (List.forall_mem_cons.mpr ⟨lwm_82, (List.forall_mem_cons.mpr ⟨lwm_35, (List.forall_mem_cons.mpr ⟨lwm_219, (List.forall_mem_cons.mpr ⟨lwm_99, (List.forall_mem_cons.mpr ⟨lwm_98, (List.forall_mem_cons.mpr ⟨lwm_97, (List.forall_mem_cons.mpr ⟨lwm_305, (List.forall_mem_cons.mpr ⟨lwm_304, (List.forall_mem_cons.mpr ⟨lwm_303, (List.forall_mem_cons.mpr ⟨lwm_302, (List.forall_mem_cons.mpr ⟨lwm_95, (List.forall_mem_cons.mpr ⟨lwm_301, (List.forall_mem_cons.mpr ⟨lwm_300, (List.forall_mem_cons.mpr ⟨lwm_299, (List.forall_mem_cons.mpr ⟨lwm_298, (List.forall_mem_cons.mpr ⟨lwm_297, (List.forall_mem_cons.mpr ⟨lwm_296, (List.forall_mem_cons.mpr ⟨lwm_295, (List.forall_mem_cons.mpr ⟨lwm_294, (fun _ h => absurd h List.not_mem_nil)⟩)⟩)⟩)⟩)⟩)⟩)⟩)⟩)⟩)⟩)⟩)⟩)⟩)⟩)⟩)⟩)⟩)⟩)⟩)⟩)⟩)⟩)⟩)⟩)
theorem lws_wsX6_warm_r3 : ∀ w ∈ wsX6_warm_r3, w ∈ wsL_law := by
  unfold wsX6_warm_r3
  exact (List.forall_mem_cons.mpr ⟨lwm_293, (List.forall_mem_cons.mpr ⟨lwm_292, (List.forall_mem_cons.mpr ⟨lwm_291, (List.forall_mem_cons.mpr ⟨lwm_290, (List.forall_mem_cons.mpr ⟨lwm_289, (List.forall_mem_cons.mpr ⟨lwm_271, (List.forall_mem_cons.mpr ⟨lwm_270, (List.forall_mem_cons.mpr ⟨lwm_269, (List.forall_mem_cons.mpr ⟨lwm_2, (List.forall_mem_cons.mpr ⟨lwm_268, (List.forall_mem_cons.mpr ⟨lwm_108, (List.forall_mem_cons.mpr ⟨lwm_58, (List.forall_mem_cons.mpr ⟨lwm_267, (List.forall_mem_cons.mpr ⟨lwm_249, (List.forall_mem_cons.mpr ⟨lwm_288, (List.forall_mem_cons.mpr ⟨lwm_287, (List.forall_mem_cons.mpr ⟨lwm_286, (List.forall_mem_cons.mpr ⟨lwm_285, (List.forall_mem_cons.mpr ⟨lwm_57, (List.forall_mem_cons.mpr ⟨lwm_284, (List.forall_mem_cons.mpr ⟨lwm_310, (List.forall_mem_cons.mpr ⟨lwm_247, (List.forall_mem_cons.mpr ⟨lwm_246, (List.forall_mem_cons.mpr ⟨lwm_245, (fun _ h => absurd h List.not_mem_nil)⟩)⟩)⟩)⟩)⟩)⟩)⟩)⟩)⟩)⟩)⟩)⟩)⟩)⟩)⟩)⟩)⟩)⟩)⟩)⟩)⟩)⟩)⟩)⟩)
theorem lws_wsX6_warm_r4 : ∀ w ∈ wsX6_warm_r4, w ∈ wsL_law := by
  unfold wsX6_warm_r4
  exact (List.forall_mem_cons.mpr ⟨lwm_107, (List.forall_mem_cons.mpr ⟨lwm_309, (List.forall_mem_cons.mpr ⟨lwm_308, (List.forall_mem_cons.mpr ⟨lwm_307, (List.forall_mem_cons.mpr ⟨lwm_306, (List.forall_mem_cons.mpr ⟨lwm_93, (List.forall_mem_cons.mpr ⟨lwm_92, (fun _ h => absurd h List.not_mem_nil)⟩)⟩)⟩)⟩)⟩)⟩)⟩)
set_option maxRecDepth 20000 in
theorem ggL_law_X6_warm : GoodIn wsL_law wsX6_warm := goodIn_sub (by
  unfold wsX6_warm
  exact (List.forall_mem_cons.mpr ⟨lwm_283, (List.forall_mem_append.mpr ⟨(List.forall_mem_append.mpr ⟨(List.forall_mem_append.mpr ⟨(List.forall_mem_append.mpr ⟨(List.forall_mem_append.mpr ⟨lws_wsX6_warm_r1, (List.forall_mem_append.mpr ⟨lws_wsX6_warm_r2, (List.forall_mem_append.mpr ⟨lws_wsX6_warm_r3, lws_wsX6_warm_r4⟩)⟩)⟩), inlX6⟩), inlX1⟩), inlX5⟩), inlX3⟩)⟩)) (by decide +kernel)
theorem lws_wsX7_warm_r1 : ∀ w ∈ wsX7_warm_r1, w ∈ wsL_law := by
  unfold wsX7_warm_r1
  exact (List.forall_mem_cons.mpr ⟨lwm_119, (List.forall_mem_cons.mpr ⟨lwm_146, (List.forall_mem_cons.mpr ⟨lwm_145, (List.forall_mem_cons.mpr ⟨lwm_133, (List.forall_mem_cons.mpr ⟨lwm_144, (List.forall_mem_cons.mpr ⟨lwm_262, (List.forall_mem_cons.mpr ⟨lwm_261, (List.forall_mem_cons.mpr ⟨lwm_260, (List.forall_mem_cons.mpr ⟨lwm_259, (List.forall_mem_cons.mpr ⟨lwm_139, (List.forall_mem_cons.mpr ⟨lwm_382, (List.forall_mem_cons.mpr ⟨lwm_381, (List.forall_mem_cons.mpr ⟨lwm_380, (List.forall_mem_cons.mpr ⟨lwm_379, (List.forall_mem_cons.mpr ⟨lwm_120, (List.forall_mem_cons.mpr ⟨lwm_336, (List.forall_mem_cons.mpr ⟨lwm_335, (List.forall_mem_cons.mpr ⟨lwm_334, (List.forall_mem_cons.mpr ⟨lwm_371, (List.forall_mem_cons.mpr ⟨lwm_370, (List.forall_mem_cons.mpr ⟨lwm_369, (List.forall_mem_cons.mpr ⟨lwm_368, (List.forall_mem_cons.mpr ⟨lwm_112, (List.forall_mem_cons.mpr ⟨lwm_138, (fun _ h => absurd h List.not_mem_nil)⟩)⟩)⟩)⟩)⟩)⟩)⟩)⟩)⟩)⟩)⟩)⟩)⟩)⟩)⟩)⟩)⟩)⟩)⟩)⟩)⟩)⟩)⟩)⟩)
theorem lws_wsX7_warm_r2 : ∀ w ∈ wsX7_warm_r2, w ∈ wsL_law := by
  unfold wsX7_warm_r2
  exact (List.forall_mem_cons.mpr ⟨lwm_239, (List.forall_mem_cons.mpr ⟨lwm_121, (List.forall_mem_cons.mpr ⟨lwm_115, (List.forall_mem_cons.mpr ⟨lwm_114, (List.forall_mem_cons.mpr ⟨lwm_319, (List.forall_mem_cons.mpr ⟨lwm_318, (List.forall_mem_cons.mpr ⟨lwm_317, (List.forall_mem_cons.mpr ⟨lwm_316, (List.forall_mem_cons.mpr ⟨lwm_137, (List.forall_mem_cons.mpr ⟨lwm_238, (List.forall_mem_cons.mpr ⟨lwm_113, (List.forall_mem_cons.mpr ⟨lwm_124, (List.forall_mem_cons.mpr ⟨lwm_315, (List.forall_mem_cons.mpr ⟨lwm_314, (List.forall_mem_cons.mpr ⟨lwm_313, (List.forall_mem_cons.mpr ⟨lwm_312, (List.forall_mem_cons.mpr ⟨lwm_258, (List.forall_mem_cons.mpr ⟨lwm_257, (List.forall_mem_cons.mpr ⟨lwm_256, (fun _ h => absurd h List.not_mem_nil)⟩)⟩)⟩)⟩)⟩)⟩)⟩)⟩)⟩)⟩)⟩)⟩)⟩)⟩)⟩)⟩)⟩)⟩)⟩)
set_option maxRecDepth 20000 in
theorem ggL_law_X7_warm : GoodIn wsL_law wsX7_warm := goodIn_sub (by
  unfold wsX7_warm
  exact (List.forall_mem_cons.mpr ⟨lwm_378, (List.forall_mem_append.mpr ⟨(List.forall_mem_append.mpr ⟨lws_wsX7_warm_r1, lws_wsX7_warm_r2⟩), inlX7⟩)⟩)) (by decide +kernel)
theorem lws_wsX6_dark_r1 : ∀ w ∈ wsX6_dark_r1, w ∈ wsL_law := by
  unfold wsX6_dark_r1
  exact (List.forall_mem_cons.mpr ⟨lwm_42, (List.forall_mem_cons.mpr ⟨lwm_1, (List.forall_mem_cons.mpr ⟨lwm_47, (List.forall_mem_cons.mpr ⟨lwm_282, (List.forall_mem_cons.mpr ⟨lwm_281, (List.forall_mem_cons.mpr ⟨lwm_251, (List.forall_mem_cons.mpr ⟨lwm_280, (List.forall_mem_cons.mpr ⟨lwm_279, (List.forall_mem_cons.mpr ⟨lwm_278, (List.forall_mem_cons.mpr ⟨lwm_277, (List.forall_mem_cons.mpr ⟨lwm_43, (List.forall_mem_cons.mpr ⟨lwm_276, (List.forall_mem_cons.mpr ⟨lwm_86, (List.forall_mem_cons.mpr ⟨lwm_94, (List.forall_mem_cons.mpr ⟨lwm_152, (List.forall_mem_cons.mpr ⟨lwm_49, (List.forall_mem_cons.mpr ⟨lwm_96, (List.forall_mem_cons.mpr ⟨lwm_275, (List.forall_mem_cons.mpr ⟨lwm_274, (List.forall_mem_cons.mpr ⟨lwm_273, (List.forall_mem_cons.mpr ⟨lwm_272, (List.forall_mem_cons.mpr ⟨lwm_85, (List.forall_mem_cons.mpr ⟨lwm_84, (List.forall_mem_cons.mpr ⟨lwm_83, (fun _ h => absurd h List.not_mem_nil)⟩)⟩)⟩)⟩)⟩)⟩)⟩)⟩)⟩)⟩)⟩)⟩)⟩)⟩)⟩)⟩)⟩)⟩)⟩)⟩)⟩)⟩)⟩)⟩)
theorem lws_wsX6_dark_r2 : ∀ w ∈ wsX6_dark_r2, w ∈ wsL_law := by
  unfold wsX6_dark_r2
  exact (List.forall_mem_cons.mpr ⟨lwm_19, (List.forall_mem_cons.mpr ⟨lwm_82, (List.forall_mem_cons.mpr ⟨lwm_35, (List.forall_mem_cons.mpr ⟨lwm_219, (List.forall_mem_cons.mpr ⟨lwm_99, (List.forall_mem_cons.mpr ⟨lwm_98, (List.forall_mem_cons.mpr ⟨lwm_97, (List.forall_mem_cons.mpr ⟨lwm_305, (List.forall_mem_cons.mpr ⟨lwm_304, (List.forall_mem_cons.mpr ⟨lwm_303, (List.forall_mem_cons.mpr ⟨lwm_302, (List.forall_mem_cons.mpr ⟨lwm_95, (List.forall_mem_cons.mpr ⟨lwm_301, (List.forall_mem_cons.mpr ⟨lwm_300, (List.forall_mem_cons.mpr ⟨lwm_299, (List.forall_mem_cons.mpr ⟨lwm_298, (List.forall_mem_cons.mpr ⟨lwm_297, (List.forall_mem_cons.mpr ⟨lwm_296, (List.forall_mem_cons.mpr ⟨lwm_295, (List.forall_mem_cons.mpr ⟨lwm_294, (List.forall_mem_cons.mpr ⟨lwm_293, (List.forall_mem_cons.mpr ⟨lwm_292, (List.forall_mem_cons.mpr ⟨lwm_291, (List.forall_mem_cons.mpr ⟨lwm_290, (fun _ h => absurd h List.not_mem_nil)⟩)⟩)⟩)⟩)⟩)⟩)⟩)⟩)⟩)⟩)⟩)⟩)⟩)⟩)⟩)⟩)⟩)⟩)⟩)⟩)⟩)⟩)⟩)⟩)
theorem lws_wsX6_dark_r3 : ∀ w ∈ wsX6_dark_r3, w ∈ wsL_law := by
  unfold wsX6_dark_r3
  exact (List.forall_mem_cons.mpr ⟨lwm_289, (List.forall_mem_cons.mpr ⟨lwm_271, (List.forall_mem_cons.mpr ⟨lwm_270, (List.forall_mem_cons.mpr ⟨lwm_269, (List.forall_mem_cons.mpr ⟨lwm_2, (List.forall_mem_cons.mpr ⟨lwm_268, (List.forall_mem_cons.mpr ⟨lwm_108, (List.forall_mem_cons.mpr ⟨lwm_58, (List.forall_mem_cons.mpr ⟨lwm_267, (List.forall_mem_cons.mpr ⟨lwm_249, (List.forall_mem_cons.mpr ⟨lwm_288, (List.forall_mem_cons.mpr ⟨lwm_287, (List.forall_mem_cons.mpr ⟨lwm_286, (List.forall_mem_cons.mpr ⟨lwm_285, (List.forall_mem_cons.mpr ⟨lwm_57, (List.forall_mem_cons.mpr ⟨lwm_284, (List.forall_mem_cons.mpr ⟨lwm_310, (List.forall_mem_cons.mpr ⟨lwm_247, (List.forall_mem_cons.mpr ⟨lwm_246, (List.forall_mem_cons.mpr ⟨lwm_245, (List.forall_mem_cons.mpr ⟨lwm_107, (fun _ h => absurd h List.not_mem_nil)⟩)⟩)⟩)⟩)⟩)⟩)⟩)⟩)⟩)⟩)⟩)⟩)⟩)⟩)⟩)⟩)⟩)⟩)⟩)⟩)⟩)
set_option maxRecDepth 20000 in
theorem ggL_law_X6_dark : GoodIn wsL_law wsX6_dark := goodIn_sub (by
  unfold wsX6_dark
  exact (List.forall_mem_cons.mpr ⟨lwm_383, (List.forall_mem_append.mpr ⟨(List.forall_mem_append.mpr ⟨(List.forall_mem_append.mpr ⟨(List.forall_mem_append.mpr ⟨(List.forall_mem_append.mpr ⟨lws_wsX6_dark_r1, (List.forall_mem_append.mpr ⟨lws_wsX6_dark_r2, lws_wsX6_dark_r3⟩)⟩), inlX6⟩), inlX1⟩), inlX5⟩), inlX3⟩)⟩)) (by decide +kernel)
theorem lws_wsX7_dark_r1 : ∀ w ∈ wsX7_dark_r1, w ∈ wsL_law := by
  unfold wsX7_dark_r1
  exact (List.forall_mem_cons.mpr ⟨lwm_119, (List.forall_mem_cons.mpr ⟨lwm_146, (List.forall_mem_cons.mpr ⟨lwm_145, (List.forall_mem_cons.mpr ⟨lwm_133, (List.forall_mem_cons.mpr ⟨lwm_144, (List.forall_mem_cons.mpr ⟨lwm_382, (List.forall_mem_cons.mpr ⟨lwm_381, (List.forall_mem_cons.mpr ⟨lwm_380, (List.forall_mem_cons.mpr ⟨lwm_379, (List.forall_mem_cons.mpr ⟨lwm_120, (List.forall_mem_cons.mpr ⟨lwm_336, (List.forall_mem_cons.mpr ⟨lwm_335, (List.forall_mem_cons.mpr ⟨lwm_334, (List.forall_mem_cons.mpr ⟨lwm_371, (List.forall_mem_cons.mpr ⟨lwm_370, (List.forall_mem_cons.mpr ⟨lwm_369, (List.forall_mem_cons.mpr ⟨lwm_368, (List.forall_mem_cons.mpr ⟨lwm_139, (List.forall_mem_cons.mpr ⟨lwm_112, (List.forall_mem_cons.mpr ⟨lwm_138, (List.forall_mem_cons.mpr ⟨lwm_239, (List.forall_mem_cons.mpr ⟨lwm_121, (List.forall_mem_cons.mpr ⟨lwm_115, (List.forall_mem_cons.mpr ⟨lwm_114, (fun _ h => absurd h List.not_mem_nil)⟩)⟩)⟩)⟩)⟩)⟩)⟩)⟩)⟩)⟩)⟩)⟩)⟩)⟩)⟩)⟩)⟩)⟩)⟩)⟩)⟩)⟩)⟩)⟩)
theorem lws_wsX7_dark_r2 : ∀ w ∈ wsX7_dark_r2, w ∈ wsL_law := by
  unfold wsX7_dark_r2
  exact (List.forall_mem_cons.mpr ⟨lwm_388, (List.forall_mem_cons.mpr ⟨lwm_387, (List.forall_mem_cons.mpr ⟨lwm_386, (List.forall_mem_cons.mpr ⟨lwm_385, (List.forall_mem_cons.mpr ⟨lwm_315, (List.forall_mem_cons.mpr ⟨lwm_314, (List.forall_mem_cons.mpr ⟨lwm_313, (List.forall_mem_cons.mpr ⟨lwm_312, (fun _ h => absurd h List.not_mem_nil)⟩)⟩)⟩)⟩)⟩)⟩)⟩)⟩)
set_option maxRecDepth 20000 in
theorem ggL_law_X7_dark : GoodIn wsL_law wsX7_dark := goodIn_sub (by
  unfold wsX7_dark
  exact (List.forall_mem_cons.mpr ⟨lwm_384, (List.forall_mem_append.mpr ⟨(List.forall_mem_append.mpr ⟨lws_wsX7_dark_r1, lws_wsX7_dark_r2⟩), inlX7⟩)⟩)) (by decide +kernel)
theorem lws_wsX6_walk_r1 : ∀ w ∈ wsX6_walk_r1, w ∈ wsL_law := by
  unfold wsX6_walk_r1
  exact (List.forall_mem_cons.mpr ⟨lwm_42, (List.forall_mem_cons.mpr ⟨lwm_1, (List.forall_mem_cons.mpr ⟨lwm_47, (List.forall_mem_cons.mpr ⟨lwm_254, (List.forall_mem_cons.mpr ⟨lwm_253, (List.forall_mem_cons.mpr ⟨lwm_252, (List.forall_mem_cons.mpr ⟨lwm_251, (List.forall_mem_cons.mpr ⟨lwm_250, (List.forall_mem_cons.mpr ⟨lwm_282, (List.forall_mem_cons.mpr ⟨lwm_281, (List.forall_mem_cons.mpr ⟨lwm_280, (List.forall_mem_cons.mpr ⟨lwm_279, (List.forall_mem_cons.mpr ⟨lwm_278, (List.forall_mem_cons.mpr ⟨lwm_277, (List.forall_mem_cons.mpr ⟨lwm_43, (List.forall_mem_cons.mpr ⟨lwm_276, (List.forall_mem_cons.mpr ⟨lwm_86, (List.forall_mem_cons.mpr ⟨lwm_94, (List.forall_mem_cons.mpr ⟨lwm_152, (List.forall_mem_cons.mpr ⟨lwm_49, (List.forall_mem_cons.mpr ⟨lwm_96, (List.forall_mem_cons.mpr ⟨lwm_275, (List.forall_mem_cons.mpr ⟨lwm_274, (List.forall_mem_cons.mpr ⟨lwm_273, (fun _ h => absurd h List.not_mem_nil)⟩)⟩)⟩)⟩)⟩)⟩)⟩)⟩)⟩)⟩)⟩)⟩)⟩)⟩)⟩)⟩)⟩)⟩)⟩)⟩)⟩)⟩)⟩)⟩)
theorem lws_wsX6_walk_r2 : ∀ w ∈ wsX6_walk_r2, w ∈ wsL_law := by
  unfold wsX6_walk_r2
  exact (List.forall_mem_cons.mpr ⟨lwm_272, (List.forall_mem_cons.mpr ⟨lwm_85, (List.forall_mem_cons.mpr ⟨lwm_84, (List.forall_mem_cons.mpr ⟨lwm_83, (List.forall_mem_cons.mpr ⟨lwm_19, (List.forall_mem_cons.mpr ⟨lwm_82, (List.forall_mem_cons.mpr ⟨lwm_35, (List.forall_mem_cons.mpr ⟨lwm_219, (List.forall_mem_cons.mpr ⟨lwm_99, (List.forall_mem_cons.mpr ⟨lwm_98, (List.forall_mem_cons.mpr ⟨lwm_97, (List.forall_mem_cons.mpr ⟨lwm_305, (List.forall_mem_cons.mpr ⟨lwm_304, (List.forall_mem_cons.mpr ⟨lwm_303, (List.forall_mem_cons.mpr ⟨lwm_302, (List.forall_mem_cons.mpr ⟨lwm_95, (List.forall_mem_cons.mpr ⟨lwm_301, (List.forall_mem_cons.mpr ⟨lwm_300, (List.forall_mem_cons.mpr ⟨lwm_299, (List.forall_mem_cons.mpr ⟨lwm_298, (List.forall_mem_cons.mpr ⟨lwm_297, (List.forall_mem_cons.mpr ⟨lwm_296, (List.forall_mem_cons.mpr ⟨lwm_295, (List.forall_mem_cons.mpr ⟨lwm_294, (fun _ h => absurd h List.not_mem_nil)⟩)⟩)⟩)⟩)⟩)⟩)⟩)⟩)⟩)⟩)⟩)⟩)⟩)⟩)⟩)⟩)⟩)⟩)⟩)⟩)⟩)⟩)⟩)⟩)
theorem lws_wsX6_walk_r3 : ∀ w ∈ wsX6_walk_r3, w ∈ wsL_law := by
  unfold wsX6_walk_r3
  exact (List.forall_mem_cons.mpr ⟨lwm_390, (List.forall_mem_cons.mpr ⟨lwm_293, (List.forall_mem_cons.mpr ⟨lwm_292, (List.forall_mem_cons.mpr ⟨lwm_291, (List.forall_mem_cons.mpr ⟨lwm_290, (List.forall_mem_cons.mpr ⟨lwm_289, (List.forall_mem_cons.mpr ⟨lwm_271, (List.forall_mem_cons.mpr ⟨lwm_270, (List.forall_mem_cons.mpr ⟨lwm_269, (List.forall_mem_cons.mpr ⟨lwm_2, (List.forall_mem_cons.mpr ⟨lwm_268, (List.forall_mem_cons.mpr ⟨lwm_108, (List.forall_mem_cons.mpr ⟨lwm_58, (List.forall_mem_cons.mpr ⟨lwm_267, (List.forall_mem_cons.mpr ⟨lwm_249, (List.forall_mem_cons.mpr ⟨lwm_288, (List.forall_mem_cons.mpr ⟨lwm_287, (List.forall_mem_cons.mpr ⟨lwm_286, (List.forall_mem_cons.mpr ⟨lwm_285, (List.forall_mem_cons.mpr ⟨lwm_57, (List.forall_mem_cons.mpr ⟨lwm_284, (List.forall_mem_cons.mpr ⟨lwm_310, (List.forall_mem_cons.mpr ⟨lwm_247, (List.forall_mem_cons.mpr ⟨lwm_246, (fun _ h => absurd h List.not_mem_nil)⟩)⟩)⟩)⟩)⟩)⟩)⟩)⟩)⟩)⟩)⟩)⟩)⟩)⟩)⟩)⟩)⟩)⟩)⟩)⟩)⟩)⟩)⟩)⟩)
theorem lws_wsX6_walk_r4 : ∀ w ∈ wsX6_walk_r4, w ∈ wsL_law := by
  unfold wsX6_walk_r4
  exact (List.forall_mem_cons.mpr ⟨lwm_245, (List.forall_mem_cons.mpr ⟨lwm_107, (fun _ h => absurd h List.not_mem_nil)⟩)⟩)
set_option maxRecDepth 20000 in
theorem ggL_law_X6_walk : GoodIn wsL_law wsX6_walk := goodIn_sub (by
  unfold wsX6_walk
  exact (List.forall_mem_cons.mpr ⟨lwm_389, (List.forall_mem_append.mpr ⟨(List.forall_mem_append.mpr ⟨(List.forall_mem_append.mpr ⟨(List.forall_mem_append.mpr ⟨(List.forall_mem_append.mpr ⟨lws_wsX6_walk_r1, (List.forall_mem_append.mpr ⟨lws_wsX6_walk_r2, (List.forall_mem_append.mpr ⟨lws_wsX6_walk_r3, lws_wsX6_walk_r4⟩)⟩)⟩), inlX6⟩), inlX1⟩), inlX5⟩), inlX3⟩)⟩)) (by decide +kernel)
theorem lws_wsX7_walk_r1 : ∀ w ∈ wsX7_walk_r1, w ∈ wsL_law := by
  unfold wsX7_walk_r1
  exact (List.forall_mem_cons.mpr ⟨lwm_119, (List.forall_mem_cons.mpr ⟨lwm_139, (List.forall_mem_cons.mpr ⟨lwm_262, (List.forall_mem_cons.mpr ⟨lwm_261, (List.forall_mem_cons.mpr ⟨lwm_260, (List.forall_mem_cons.mpr ⟨lwm_133, (List.forall_mem_cons.mpr ⟨lwm_259, (List.forall_mem_cons.mpr ⟨lwm_146, (List.forall_mem_cons.mpr ⟨lwm_145, (List.forall_mem_cons.mpr ⟨lwm_144, (List.forall_mem_cons.mpr ⟨lwm_382, (List.forall_mem_cons.mpr ⟨lwm_381, (List.forall_mem_cons.mpr ⟨lwm_380, (List.forall_mem_cons.mpr ⟨lwm_379, (List.forall_mem_cons.mpr ⟨lwm_120, (List.forall_mem_cons.mpr ⟨lwm_336, (List.forall_mem_cons.mpr ⟨lwm_335, (List.forall_mem_cons.mpr ⟨lwm_334, (List.forall_mem_cons.mpr ⟨lwm_371, (List.forall_mem_cons.mpr ⟨lwm_370, (List.forall_mem_cons.mpr ⟨lwm_369, (List.forall_mem_cons.mpr ⟨lwm_368, (List.forall_mem_cons.mpr ⟨lwm_112, (List.forall_mem_cons.mpr ⟨lwm_138, (fun _ h => absurd h List.not_mem_nil)⟩)⟩)⟩)⟩)⟩)⟩)⟩)⟩)⟩)⟩)⟩)⟩)⟩)⟩)⟩)⟩)⟩)⟩)⟩)⟩)⟩)⟩)⟩)⟩)
theorem lws_wsX7_walk_r2 : ∀ w ∈ wsX7_walk_r2, w ∈ wsL_law := by
  unfold wsX7_walk_r2
  exact (List.forall_mem_cons.mpr ⟨lwm_239, (List.forall_mem_cons.mpr ⟨lwm_121, (List.forall_mem_cons.mpr ⟨lwm_115, (List.forall_mem_cons.mpr ⟨lwm_114, (List.forall_mem_cons.mpr ⟨lwm_315, (List.forall_mem_cons.mpr ⟨lwm_314, (List.forall_mem_cons.mpr ⟨lwm_313, (List.forall_mem_cons.mpr ⟨lwm_312, (List.forall_mem_cons.mpr ⟨lwm_258, (List.forall_mem_cons.mpr ⟨lwm_257, (List.forall_mem_cons.mpr ⟨lwm_256, (fun _ h => absurd h List.not_mem_nil)⟩)⟩)⟩)⟩)⟩)⟩)⟩)⟩)⟩)⟩)⟩)
set_option maxRecDepth 20000 in
theorem ggL_law_X7_walk : GoodIn wsL_law wsX7_walk := goodIn_sub (by
  unfold wsX7_walk
  exact (List.forall_mem_cons.mpr ⟨lwm_391, (List.forall_mem_append.mpr ⟨(List.forall_mem_append.mpr ⟨lws_wsX7_walk_r1, lws_wsX7_walk_r2⟩), inlX7⟩)⟩)) (by decide +kernel)
theorem lws_wsX6_seen_r1 : ∀ w ∈ wsX6_seen_r1, w ∈ wsL_law := by
  unfold wsX6_seen_r1
  exact (List.forall_mem_cons.mpr ⟨lwm_10, (List.forall_mem_cons.mpr ⟨lwm_254, (List.forall_mem_cons.mpr ⟨lwm_253, (List.forall_mem_cons.mpr ⟨lwm_252, (List.forall_mem_cons.mpr ⟨lwm_251, (List.forall_mem_cons.mpr ⟨lwm_250, (List.forall_mem_cons.mpr ⟨lwm_42, (List.forall_mem_cons.mpr ⟨lwm_282, (List.forall_mem_cons.mpr ⟨lwm_281, (List.forall_mem_cons.mpr ⟨lwm_280, (List.forall_mem_cons.mpr ⟨lwm_397, (List.forall_mem_cons.mpr ⟨lwm_396, (List.forall_mem_cons.mpr ⟨lwm_395, (List.forall_mem_cons.mpr ⟨lwm_11, (List.forall_mem_cons.mpr ⟨lwm_394, (List.forall_mem_cons.mpr ⟨lwm_72, (List.forall_mem_cons.mpr ⟨lwm_229, (List.forall_mem_cons.mpr ⟨lwm_71, (List.forall_mem_cons.mpr ⟨lwm_70, (List.forall_mem_cons.mpr ⟨lwm_393, (List.forall_mem_cons.mpr ⟨lwm_84, (List.forall_mem_cons.mpr ⟨lwm_83, (List.forall_mem_cons.mpr ⟨lwm_19, (List.forall_mem_cons.mpr ⟨lwm_82, (fun _ h => absurd h List.not_mem_nil)⟩)⟩)⟩)⟩)⟩)⟩)⟩)⟩)⟩)⟩)⟩)⟩)⟩)⟩)⟩)⟩)⟩)⟩)⟩)⟩)⟩)⟩)⟩)⟩)
theorem lws_wsX6_seen_r2 : ∀ w ∈ wsX6_seen_r2, w ∈ wsL_law := by
  unfold wsX6_seen_r2
  exact (List.forall_mem_cons.mpr ⟨lwm_35, (fun _ h => absurd h List.not_mem_nil)⟩)
set_option maxRecDepth 20000 in
theorem ggL_law_X6_seen : GoodIn wsL_law wsX6_seen := goodIn_sub (by
  unfold wsX6_seen
  exact (List.forall_mem_cons.mpr ⟨lwm_392, (List.forall_mem_append.mpr ⟨(List.forall_mem_append.mpr ⟨(List.forall_mem_append.mpr ⟨(List.forall_mem_append.mpr ⟨(List.forall_mem_append.mpr ⟨lws_wsX6_seen_r1, lws_wsX6_seen_r2⟩), inlX6⟩), inlX0⟩), inlX5⟩), inlX3⟩)⟩)) (by decide +kernel)
set_option maxRecDepth 20000 in
theorem ggL_law_X7_seen : GoodIn wsL_law wsX7_seen := goodIn_sub (by
  unfold wsX7_seen
  exact (List.forall_mem_cons.mpr ⟨lwm_398, (List.forall_mem_append.mpr ⟨(List.forall_mem_cons.mpr ⟨lwm_237, (List.forall_mem_cons.mpr ⟨lwm_116, (List.forall_mem_cons.mpr ⟨lwm_262, (List.forall_mem_cons.mpr ⟨lwm_261, (List.forall_mem_cons.mpr ⟨lwm_260, (List.forall_mem_cons.mpr ⟨lwm_133, (List.forall_mem_cons.mpr ⟨lwm_259, (List.forall_mem_cons.mpr ⟨lwm_139, (List.forall_mem_cons.mpr ⟨lwm_146, (List.forall_mem_cons.mpr ⟨lwm_145, (List.forall_mem_cons.mpr ⟨lwm_144, (List.forall_mem_cons.mpr ⟨lwm_258, (List.forall_mem_cons.mpr ⟨lwm_257, (List.forall_mem_cons.mpr ⟨lwm_256, (fun _ h => absurd h List.not_mem_nil)⟩)⟩)⟩)⟩)⟩)⟩)⟩)⟩)⟩)⟩)⟩)⟩)⟩)⟩), inlX7⟩)⟩)) (by decide +kernel)
set_option maxRecDepth 20000 in
theorem ggL_law_X6_forget : GoodIn wsL_law wsX6_forget := goodIn_sub (by
  unfold wsX6_forget
  exact (List.forall_mem_cons.mpr ⟨lwm_399, (List.forall_mem_append.mpr ⟨(List.forall_mem_append.mpr ⟨(List.forall_mem_cons.mpr ⟨lwm_10, (List.forall_mem_cons.mpr ⟨lwm_233, (List.forall_mem_cons.mpr ⟨lwm_232, (List.forall_mem_cons.mpr ⟨lwm_231, (List.forall_mem_cons.mpr ⟨lwm_11, (List.forall_mem_cons.mpr ⟨lwm_230, (List.forall_mem_cons.mpr ⟨lwm_229, (fun _ h => absurd h List.not_mem_nil)⟩)⟩)⟩)⟩)⟩)⟩)⟩), inlX6⟩), inlX0⟩)⟩)) (by decide +kernel)
set_option maxRecDepth 20000 in
theorem ggL_law_X7_forget : GoodIn wsL_law wsX7_forget := goodIn_sub (by
  unfold wsX7_forget
  exact (List.forall_mem_cons.mpr ⟨lwm_400, (List.forall_mem_append.mpr ⟨(List.forall_mem_cons.mpr ⟨lwm_237, (fun _ h => absurd h List.not_mem_nil)⟩), inlX7⟩)⟩)) (by decide +kernel)
theorem lws_wsX6_fits_r1 : ∀ w ∈ wsX6_fits_r1, w ∈ wsL_law := by
  unfold wsX6_fits_r1
  exact (List.forall_mem_cons.mpr ⟨lwm_412, (List.forall_mem_cons.mpr ⟨lwm_411, (List.forall_mem_cons.mpr ⟨lwm_410, (List.forall_mem_cons.mpr ⟨lwm_251, (List.forall_mem_cons.mpr ⟨lwm_409, (List.forall_mem_cons.mpr ⟨lwm_42, (List.forall_mem_cons.mpr ⟨lwm_46, (List.forall_mem_cons.mpr ⟨lwm_10, (List.forall_mem_cons.mpr ⟨lwm_408, (List.forall_mem_cons.mpr ⟨lwm_407, (List.forall_mem_cons.mpr ⟨lwm_406, (List.forall_mem_cons.mpr ⟨lwm_43, (List.forall_mem_cons.mpr ⟨lwm_405, (List.forall_mem_cons.mpr ⟨lwm_86, (List.forall_mem_cons.mpr ⟨lwm_50, (List.forall_mem_cons.mpr ⟨lwm_219, (List.forall_mem_cons.mpr ⟨lwm_99, (List.forall_mem_cons.mpr ⟨lwm_98, (List.forall_mem_cons.mpr ⟨lwm_19, (List.forall_mem_cons.mpr ⟨lwm_97, (List.forall_mem_cons.mpr ⟨lwm_35, (List.forall_mem_cons.mpr ⟨lwm_404, (List.forall_mem_cons.mpr ⟨lwm_403, (List.forall_mem_cons.mpr ⟨lwm_402, (fun _ h => absurd h List.not_mem_nil)⟩)⟩)⟩)⟩)⟩)⟩)⟩)⟩)⟩)⟩)⟩)⟩)⟩)⟩)⟩)⟩)⟩)⟩)⟩)⟩)⟩)⟩)⟩)⟩)
theorem lws_wsX6_fits_r2 : ∀ w ∈ wsX6_fits_r2, w ∈ wsL_law := by
  unfold wsX6_fits_r2
  exact (List.forall_mem_cons.mpr ⟨lwm_414, (List.forall_mem_cons.mpr ⟨lwm_275, (List.forall_mem_cons.mpr ⟨lwm_274, (List.forall_mem_cons.mpr ⟨lwm_273, (List.forall_mem_cons.mpr ⟨lwm_272, (List.forall_mem_cons.mpr ⟨lwm_413, (List.forall_mem_cons.mpr ⟨lwm_278, (List.forall_mem_cons.mpr ⟨lwm_277, (List.forall_mem_cons.mpr ⟨lwm_276, (List.forall_mem_cons.mpr ⟨lwm_94, (List.forall_mem_cons.mpr ⟨lwm_152, (List.forall_mem_cons.mpr ⟨lwm_49, (List.forall_mem_cons.mpr ⟨lwm_96, (List.forall_mem_cons.mpr ⟨lwm_85, (List.forall_mem_cons.mpr ⟨lwm_84, (List.forall_mem_cons.mpr ⟨lwm_83, (List.forall_mem_cons.mpr ⟨lwm_82, (List.forall_mem_cons.mpr ⟨lwm_305, (List.forall_mem_cons.mpr ⟨lwm_304, (List.forall_mem_cons.mpr ⟨lwm_303, (List.forall_mem_cons.mpr ⟨lwm_302, (List.forall_mem_cons.mpr ⟨lwm_95, (List.forall_mem_cons.mpr ⟨lwm_301, (List.forall_mem_cons.mpr ⟨lwm_300, (fun _ h => absurd h List.not_mem_nil)⟩)⟩)⟩)⟩)⟩)⟩)⟩)⟩)⟩)⟩)⟩)⟩)⟩)⟩)⟩)⟩)⟩)⟩)⟩)⟩)⟩)⟩)⟩)⟩)
theorem lws_wsX6_fits_r3 : ∀ w ∈ wsX6_fits_r3, w ∈ wsL_law := by
  unfold wsX6_fits_r3
  exact (List.forall_mem_cons.mpr ⟨lwm_299, (List.forall_mem_cons.mpr ⟨lwm_298, (List.forall_mem_cons.mpr ⟨lwm_297, (List.forall_mem_cons.mpr ⟨lwm_296, (List.forall_mem_cons.mpr ⟨lwm_295, (List.forall_mem_cons.mpr ⟨lwm_294, (List.forall_mem_cons.mpr ⟨lwm_421, (List.forall_mem_cons.mpr ⟨lwm_420, (List.forall_mem_cons.mpr ⟨lwm_419, (List.forall_mem_cons.mpr ⟨lwm_11, (List.forall_mem_cons.mpr ⟨lwm_418, (List.forall_mem_cons.mpr ⟨lwm_229, (List.forall_mem_cons.mpr ⟨lwm_72, (List.forall_mem_cons.mpr ⟨lwm_71, (List.forall_mem_cons.mpr ⟨lwm_70, (List.forall_mem_cons.mpr ⟨lwm_417, (List.forall_mem_cons.mpr ⟨lwm_416, (List.forall_mem_cons.mpr ⟨lwm_415, (List.forall_mem_cons.mpr ⟨lwm_308, (List.forall_mem_cons.mpr ⟨lwm_307, (List.forall_mem_cons.mpr ⟨lwm_306, (List.forall_mem_cons.mpr ⟨lwm_93, (List.forall_mem_cons.mpr ⟨lwm_92, (fun _ h => absurd h List.not_mem_nil)⟩)⟩)⟩)⟩)⟩)⟩)⟩)⟩)⟩)⟩)⟩)⟩)⟩)⟩)⟩)⟩)⟩)⟩)⟩)⟩)⟩)⟩)⟩)
set_option maxRecDepth 20000 in
theorem ggL_law_X6_fits : GoodIn wsL_law wsX6_fits := goodIn_sub (by
  unfold wsX6_fits
  exact (List.forall_mem_cons.mpr ⟨lwm_401, (List.forall_mem_append.mpr ⟨(List.forall_mem_append.mpr ⟨(List.forall_mem_append.mpr ⟨(List.forall_mem_append.mpr ⟨(List.forall_mem_append.mpr ⟨lws_wsX6_fits_r1, (List.forall_mem_append.mpr ⟨lws_wsX6_fits_r2, lws_wsX6_fits_r3⟩)⟩), inlX6⟩), inlX5⟩), inlX3⟩), inlX0⟩)⟩)) (by decide +kernel)
theorem lws_wsX7_fits_r1 : ∀ w ∈ wsX7_fits_r1, w ∈ wsL_law := by
  unfold wsX7_fits_r1
  exact (List.forall_mem_cons.mpr ⟨lwm_437, (List.forall_mem_cons.mpr ⟨lwm_436, (List.forall_mem_cons.mpr ⟨lwm_435, (List.forall_mem_cons.mpr ⟨lwm_133, (List.forall_mem_cons.mpr ⟨lwm_434, (List.forall_mem_cons.mpr ⟨lwm_139, (List.forall_mem_cons.mpr ⟨lwm_433, (List.forall_mem_cons.mpr ⟨lwm_432, (List.forall_mem_cons.mpr ⟨lwm_431, (List.forall_mem_cons.mpr ⟨lwm_430, (List.forall_mem_cons.mpr ⟨lwm_123, (List.forall_mem_cons.mpr ⟨lwm_429, (List.forall_mem_cons.mpr ⟨lwm_428, (List.forall_mem_cons.mpr ⟨lwm_427, (List.forall_mem_cons.mpr ⟨lwm_426, (List.forall_mem_cons.mpr ⟨lwm_425, (List.forall_mem_cons.mpr ⟨lwm_424, (List.forall_mem_cons.mpr ⟨lwm_423, (List.forall_mem_cons.mpr ⟨lwm_119, (List.forall_mem_cons.mpr ⟨lwm_136, (List.forall_mem_cons.mpr ⟨lwm_135, (List.forall_mem_cons.mpr ⟨lwm_134, (List.forall_mem_cons.mpr ⟨lwm_132, (List.forall_mem_cons.mpr ⟨lwm_122, (fun _ h => absurd h List.not_mem_nil)⟩)⟩)⟩)⟩)⟩)⟩)⟩)⟩)⟩)⟩)⟩)⟩)⟩)⟩)⟩)⟩)⟩)⟩)⟩)⟩)⟩)⟩)⟩)⟩)
theorem lws_wsX7_fits_r2 : ∀ w ∈ wsX7_fits_r2, w ∈ wsL_law := by
  unfold wsX7_fits_r2
  exact (List.forall_mem_cons.mpr ⟨lwm_441, (List.forall_mem_cons.mpr ⟨lwm_440, (List.forall_mem_cons.mpr ⟨lwm_439, (List.forall_mem_cons.mpr ⟨lwm_438, (List.forall_mem_cons.mpr ⟨lwm_237, (List.forall_mem_cons.mpr ⟨lwm_116, (List.forall_mem_cons.mpr ⟨lwm_319, (List.forall_mem_cons.mpr ⟨lwm_318, (List.forall_mem_cons.mpr ⟨lwm_317, (List.forall_mem_cons.mpr ⟨lwm_316, (List.forall_mem_cons.mpr ⟨lwm_137, (List.forall_mem_cons.mpr ⟨lwm_238, (List.forall_mem_cons.mpr ⟨lwm_113, (List.forall_mem_cons.mpr ⟨lwm_124, (List.forall_mem_cons.mpr ⟨lwm_315, (List.forall_mem_cons.mpr ⟨lwm_314, (List.forall_mem_cons.mpr ⟨lwm_313, (List.forall_mem_cons.mpr ⟨lwm_312, (List.forall_mem_cons.mpr ⟨lwm_146, (List.forall_mem_cons.mpr ⟨lwm_145, (List.forall_mem_cons.mpr ⟨lwm_144, (List.forall_mem_cons.mpr ⟨lwm_258, (List.forall_mem_cons.mpr ⟨lwm_257, (List.forall_mem_cons.mpr ⟨lwm_256, (fun _ h => absurd h List.not_mem_nil)⟩)⟩)⟩)⟩)⟩)⟩)⟩)⟩)⟩)⟩)⟩)⟩)⟩)⟩)⟩)⟩)⟩)⟩)⟩)⟩)⟩)⟩)⟩)⟩)
theorem lws_wsX7_fits_r3 : ∀ w ∈ wsX7_fits_r3, w ∈ wsL_law := by
  unfold wsX7_fits_r3
  exact (List.forall_mem_cons.mpr ⟨lwm_371, (List.forall_mem_cons.mpr ⟨lwm_370, (List.forall_mem_cons.mpr ⟨lwm_369, (List.forall_mem_cons.mpr ⟨lwm_368, (List.forall_mem_cons.mpr ⟨lwm_112, (List.forall_mem_cons.mpr ⟨lwm_138, (List.forall_mem_cons.mpr ⟨lwm_239, (List.forall_mem_cons.mpr ⟨lwm_121, (List.forall_mem_cons.mpr ⟨lwm_115, (List.forall_mem_cons.mpr ⟨lwm_114, (fun _ h => absurd h List.not_mem_nil)⟩)⟩)⟩)⟩)⟩)⟩)⟩)⟩)⟩)⟩)
set_option maxRecDepth 20000 in
theorem ggL_law_X7_fits : GoodIn wsL_law wsX7_fits := goodIn_sub (by
  unfold wsX7_fits
  exact (List.forall_mem_cons.mpr ⟨lwm_422, (List.forall_mem_append.mpr ⟨(List.forall_mem_append.mpr ⟨lws_wsX7_fits_r1, (List.forall_mem_append.mpr ⟨lws_wsX7_fits_r2, lws_wsX7_fits_r3⟩)⟩), inlX7⟩)⟩)) (by decide +kernel)
theorem lws_wsX6_odds_r1 : ∀ w ∈ wsX6_odds_r1, w ∈ wsL_law := by
  unfold wsX6_odds_r1
  exact (List.forall_mem_cons.mpr ⟨lwm_254, (List.forall_mem_cons.mpr ⟨lwm_253, (List.forall_mem_cons.mpr ⟨lwm_252, (List.forall_mem_cons.mpr ⟨lwm_251, (List.forall_mem_cons.mpr ⟨lwm_250, (List.forall_mem_cons.mpr ⟨lwm_42, (List.forall_mem_cons.mpr ⟨lwm_412, (List.forall_mem_cons.mpr ⟨lwm_411, (List.forall_mem_cons.mpr ⟨lwm_410, (List.forall_mem_cons.mpr ⟨lwm_409, (List.forall_mem_cons.mpr ⟨lwm_46, (List.forall_mem_cons.mpr ⟨lwm_10, (List.forall_mem_cons.mpr ⟨lwm_408, (List.forall_mem_cons.mpr ⟨lwm_407, (List.forall_mem_cons.mpr ⟨lwm_406, (List.forall_mem_cons.mpr ⟨lwm_43, (List.forall_mem_cons.mpr ⟨lwm_405, (List.forall_mem_cons.mpr ⟨lwm_86, (List.forall_mem_cons.mpr ⟨lwm_50, (List.forall_mem_cons.mpr ⟨lwm_219, (List.forall_mem_cons.mpr ⟨lwm_99, (List.forall_mem_cons.mpr ⟨lwm_98, (List.forall_mem_cons.mpr ⟨lwm_19, (List.forall_mem_cons.mpr ⟨lwm_97, (fun _ h => absurd h List.not_mem_nil)⟩)⟩)⟩)⟩)⟩)⟩)⟩)⟩)⟩)⟩)⟩)⟩)⟩)⟩)⟩)⟩)⟩)⟩)⟩)⟩)⟩)⟩)⟩)⟩)
theorem lws_wsX6_odds_r2 : ∀ w ∈ wsX6_odds_r2, w ∈ wsL_law := by
  unfold wsX6_odds_r2
  exact (List.forall_mem_cons.mpr ⟨lwm_35, (List.forall_mem_cons.mpr ⟨lwm_404, (List.forall_mem_cons.mpr ⟨lwm_403, (List.forall_mem_cons.mpr ⟨lwm_402, (List.forall_mem_cons.mpr ⟨lwm_414, (List.forall_mem_cons.mpr ⟨lwm_275, (List.forall_mem_cons.mpr ⟨lwm_274, (List.forall_mem_cons.mpr ⟨lwm_273, (List.forall_mem_cons.mpr ⟨lwm_272, (List.forall_mem_cons.mpr ⟨lwm_413, (List.forall_mem_cons.mpr ⟨lwm_278, (List.forall_mem_cons.mpr ⟨lwm_277, (List.forall_mem_cons.mpr ⟨lwm_276, (List.forall_mem_cons.mpr ⟨lwm_94, (List.forall_mem_cons.mpr ⟨lwm_152, (List.forall_mem_cons.mpr ⟨lwm_49, (List.forall_mem_cons.mpr ⟨lwm_96, (List.forall_mem_cons.mpr ⟨lwm_85, (List.forall_mem_cons.mpr ⟨lwm_84, (List.forall_mem_cons.mpr ⟨lwm_83, (List.forall_mem_cons.mpr ⟨lwm_82, (List.forall_mem_cons.mpr ⟨lwm_305, (List.forall_mem_cons.mpr ⟨lwm_304, (List.forall_mem_cons.mpr ⟨lwm_303, (fun _ h => absurd h List.not_mem_nil)⟩)⟩)⟩)⟩)⟩)⟩)⟩)⟩)⟩)⟩)⟩)⟩)⟩)⟩)⟩)⟩)⟩)⟩)⟩)⟩)⟩)⟩)⟩)⟩)
theorem lws_wsX6_odds_r3 : ∀ w ∈ wsX6_odds_r3, w ∈ wsL_law := by
  unfold wsX6_odds_r3
  exact (List.forall_mem_cons.mpr ⟨lwm_302, (List.forall_mem_cons.mpr ⟨lwm_95, (List.forall_mem_cons.mpr ⟨lwm_301, (List.forall_mem_cons.mpr ⟨lwm_300, (List.forall_mem_cons.mpr ⟨lwm_299, (List.forall_mem_cons.mpr ⟨lwm_298, (List.forall_mem_cons.mpr ⟨lwm_297, (List.forall_mem_cons.mpr ⟨lwm_296, (List.forall_mem_cons.mpr ⟨lwm_295, (List.forall_mem_cons.mpr ⟨lwm_294, (List.forall_mem_cons.mpr ⟨lwm_421, (List.forall_mem_cons.mpr ⟨lwm_420, (List.forall_mem_cons.mpr ⟨lwm_419, (List.forall_mem_cons.mpr ⟨lwm_11, (List.forall_mem_cons.mpr ⟨lwm_418, (List.forall_mem_cons.mpr ⟨lwm_229, (List.forall_mem_cons.mpr ⟨lwm_72, (List.forall_mem_cons.mpr ⟨lwm_71, (List.forall_mem_cons.mpr ⟨lwm_70, (List.forall_mem_cons.mpr ⟨lwm_417, (List.forall_mem_cons.mpr ⟨lwm_416, (List.forall_mem_cons.mpr ⟨lwm_415, (List.forall_mem_cons.mpr ⟨lwm_308, (List.forall_mem_cons.mpr ⟨lwm_307, (fun _ h => absurd h List.not_mem_nil)⟩)⟩)⟩)⟩)⟩)⟩)⟩)⟩)⟩)⟩)⟩)⟩)⟩)⟩)⟩)⟩)⟩)⟩)⟩)⟩)⟩)⟩)⟩)⟩)
theorem lws_wsX6_odds_r4 : ∀ w ∈ wsX6_odds_r4, w ∈ wsL_law := by
  unfold wsX6_odds_r4
  exact (List.forall_mem_cons.mpr ⟨lwm_306, (List.forall_mem_cons.mpr ⟨lwm_93, (List.forall_mem_cons.mpr ⟨lwm_92, (List.forall_mem_cons.mpr ⟨lwm_445, (List.forall_mem_cons.mpr ⟨lwm_444, (List.forall_mem_cons.mpr ⟨lwm_443, (fun _ h => absurd h List.not_mem_nil)⟩)⟩)⟩)⟩)⟩)⟩)
set_option maxRecDepth 20000 in
theorem ggL_law_X6_odds : GoodIn wsL_law wsX6_odds := goodIn_sub (by
  unfold wsX6_odds
  exact (List.forall_mem_cons.mpr ⟨lwm_442, (List.forall_mem_append.mpr ⟨(List.forall_mem_append.mpr ⟨(List.forall_mem_append.mpr ⟨(List.forall_mem_append.mpr ⟨(List.forall_mem_append.mpr ⟨lws_wsX6_odds_r1, (List.forall_mem_append.mpr ⟨lws_wsX6_odds_r2, (List.forall_mem_append.mpr ⟨lws_wsX6_odds_r3, lws_wsX6_odds_r4⟩)⟩)⟩), inlX6⟩), inlX5⟩), inlX3⟩), inlX0⟩)⟩)) (by decide +kernel)
theorem lws_wsX7_odds_r1 : ∀ w ∈ wsX7_odds_r1, w ∈ wsL_law := by
  unfold wsX7_odds_r1
  exact (List.forall_mem_cons.mpr ⟨lwm_262, (List.forall_mem_cons.mpr ⟨lwm_261, (List.forall_mem_cons.mpr ⟨lwm_260, (List.forall_mem_cons.mpr ⟨lwm_133, (List.forall_mem_cons.mpr ⟨lwm_259, (List.forall_mem_cons.mpr ⟨lwm_139, (List.forall_mem_cons.mpr ⟨lwm_146, (List.forall_mem_cons.mpr ⟨lwm_145, (List.forall_mem_cons.mpr ⟨lwm_144, (List.forall_mem_cons.mpr ⟨lwm_437, (List.forall_mem_cons.mpr ⟨lwm_436, (List.forall_mem_cons.mpr ⟨lwm_435, (List.forall_mem_cons.mpr ⟨lwm_434, (List.forall_mem_cons.mpr ⟨lwm_433, (List.forall_mem_cons.mpr ⟨lwm_432, (List.forall_mem_cons.mpr ⟨lwm_431, (List.forall_mem_cons.mpr ⟨lwm_430, (List.forall_mem_cons.mpr ⟨lwm_123, (List.forall_mem_cons.mpr ⟨lwm_429, (List.forall_mem_cons.mpr ⟨lwm_428, (List.forall_mem_cons.mpr ⟨lwm_427, (List.forall_mem_cons.mpr ⟨lwm_426, (List.forall_mem_cons.mpr ⟨lwm_425, (List.forall_mem_cons.mpr ⟨lwm_424, (fun _ h => absurd h List.not_mem_nil)⟩)⟩)⟩)⟩)⟩)⟩)⟩)⟩)⟩)⟩)⟩)⟩)⟩)⟩)⟩)⟩)⟩)⟩)⟩)⟩)⟩)⟩)⟩)⟩)
theorem lws_wsX7_odds_r2 : ∀ w ∈ wsX7_odds_r2, w ∈ wsL_law := by
  unfold wsX7_odds_r2
  exact (List.forall_mem_cons.mpr ⟨lwm_423, (List.forall_mem_cons.mpr ⟨lwm_119, (List.forall_mem_cons.mpr ⟨lwm_136, (List.forall_mem_cons.mpr ⟨lwm_135, (List.forall_mem_cons.mpr ⟨lwm_134, (List.forall_mem_cons.mpr ⟨lwm_132, (List.forall_mem_cons.mpr ⟨lwm_122, (List.forall_mem_cons.mpr ⟨lwm_441, (List.forall_mem_cons.mpr ⟨lwm_440, (List.forall_mem_cons.mpr ⟨lwm_439, (List.forall_mem_cons.mpr ⟨lwm_438, (List.forall_mem_cons.mpr ⟨lwm_237, (List.forall_mem_cons.mpr ⟨lwm_116, (List.forall_mem_cons.mpr ⟨lwm_319, (List.forall_mem_cons.mpr ⟨lwm_318, (List.forall_mem_cons.mpr ⟨lwm_317, (List.forall_mem_cons.mpr ⟨lwm_316, (List.forall_mem_cons.mpr ⟨lwm_137, (List.forall_mem_cons.mpr ⟨lwm_238, (List.forall_mem_cons.mpr ⟨lwm_113, (List.forall_mem_cons.mpr ⟨lwm_124, (List.forall_mem_cons.mpr ⟨lwm_315, (List.forall_mem_cons.mpr ⟨lwm_314, (List.forall_mem_cons.mpr ⟨lwm_313, (fun _ h => absurd h List.not_mem_nil)⟩)⟩)⟩)⟩)⟩)⟩)⟩)⟩)⟩)⟩)⟩)⟩)⟩)⟩)⟩)⟩)⟩)⟩)⟩)⟩)⟩)⟩)⟩)⟩)
theorem lws_wsX7_odds_r3 : ∀ w ∈ wsX7_odds_r3, w ∈ wsL_law := by
  unfold wsX7_odds_r3
  exact (List.forall_mem_cons.mpr ⟨lwm_312, (List.forall_mem_cons.mpr ⟨lwm_258, (List.forall_mem_cons.mpr ⟨lwm_257, (List.forall_mem_cons.mpr ⟨lwm_256, (List.forall_mem_cons.mpr ⟨lwm_371, (List.forall_mem_cons.mpr ⟨lwm_370, (List.forall_mem_cons.mpr ⟨lwm_369, (List.forall_mem_cons.mpr ⟨lwm_368, (List.forall_mem_cons.mpr ⟨lwm_112, (List.forall_mem_cons.mpr ⟨lwm_138, (List.forall_mem_cons.mpr ⟨lwm_239, (List.forall_mem_cons.mpr ⟨lwm_121, (List.forall_mem_cons.mpr ⟨lwm_115, (List.forall_mem_cons.mpr ⟨lwm_114, (fun _ h => absurd h List.not_mem_nil)⟩)⟩)⟩)⟩)⟩)⟩)⟩)⟩)⟩)⟩)⟩)⟩)⟩)⟩)
set_option maxRecDepth 20000 in
theorem ggL_law_X7_odds : GoodIn wsL_law wsX7_odds := goodIn_sub (by
  unfold wsX7_odds
  exact (List.forall_mem_cons.mpr ⟨lwm_446, (List.forall_mem_append.mpr ⟨(List.forall_mem_append.mpr ⟨lws_wsX7_odds_r1, (List.forall_mem_append.mpr ⟨lws_wsX7_odds_r2, lws_wsX7_odds_r3⟩)⟩), inlX7⟩)⟩)) (by decide +kernel)
theorem lws_wsX6_letOut_r1 : ∀ w ∈ wsX6_letOut_r1, w ∈ wsL_law := by
  unfold wsX6_letOut_r1
  exact (List.forall_mem_cons.mpr ⟨lwm_42, (List.forall_mem_cons.mpr ⟨lwm_46, (List.forall_mem_cons.mpr ⟨lwm_404, (List.forall_mem_cons.mpr ⟨lwm_403, (List.forall_mem_cons.mpr ⟨lwm_402, (List.forall_mem_cons.mpr ⟨lwm_43, (List.forall_mem_cons.mpr ⟨lwm_414, (List.forall_mem_cons.mpr ⟨lwm_86, (List.forall_mem_cons.mpr ⟨lwm_50, (List.forall_mem_cons.mpr ⟨lwm_275, (List.forall_mem_cons.mpr ⟨lwm_274, (List.forall_mem_cons.mpr ⟨lwm_273, (List.forall_mem_cons.mpr ⟨lwm_272, (List.forall_mem_cons.mpr ⟨lwm_413, (List.forall_mem_cons.mpr ⟨lwm_278, (List.forall_mem_cons.mpr ⟨lwm_277, (List.forall_mem_cons.mpr ⟨lwm_276, (List.forall_mem_cons.mpr ⟨lwm_94, (List.forall_mem_cons.mpr ⟨lwm_152, (List.forall_mem_cons.mpr ⟨lwm_49, (List.forall_mem_cons.mpr ⟨lwm_96, (List.forall_mem_cons.mpr ⟨lwm_85, (List.forall_mem_cons.mpr ⟨lwm_84, (List.forall_mem_cons.mpr ⟨lwm_83, (fun _ h => absurd h List.not_mem_nil)⟩)⟩)⟩)⟩)⟩)⟩)⟩)⟩)⟩)⟩)⟩)⟩)⟩)⟩)⟩)⟩)⟩)⟩)⟩)⟩)⟩)⟩)⟩)⟩)
theorem lws_wsX6_letOut_r2 : ∀ w ∈ wsX6_letOut_r2, w ∈ wsL_law := by
  unfold wsX6_letOut_r2
  exact (List.forall_mem_cons.mpr ⟨lwm_19, (List.forall_mem_cons.mpr ⟨lwm_82, (List.forall_mem_cons.mpr ⟨lwm_35, (List.forall_mem_cons.mpr ⟨lwm_219, (List.forall_mem_cons.mpr ⟨lwm_99, (List.forall_mem_cons.mpr ⟨lwm_98, (List.forall_mem_cons.mpr ⟨lwm_97, (List.forall_mem_cons.mpr ⟨lwm_305, (List.forall_mem_cons.mpr ⟨lwm_304, (List.forall_mem_cons.mpr ⟨lwm_303, (List.forall_mem_cons.mpr ⟨lwm_302, (List.forall_mem_cons.mpr ⟨lwm_95, (List.forall_mem_cons.mpr ⟨lwm_301, (List.forall_mem_cons.mpr ⟨lwm_300, (List.forall_mem_cons.mpr ⟨lwm_299, (List.forall_mem_cons.mpr ⟨lwm_298, (List.forall_mem_cons.mpr ⟨lwm_297, (List.forall_mem_cons.mpr ⟨lwm_296, (List.forall_mem_cons.mpr ⟨lwm_295, (List.forall_mem_cons.mpr ⟨lwm_294, (List.forall_mem_cons.mpr ⟨lwm_450, (List.forall_mem_cons.mpr ⟨lwm_449, (List.forall_mem_cons.mpr ⟨lwm_448, (List.forall_mem_cons.mpr ⟨lwm_251, (fun _ h => absurd h List.not_mem_nil)⟩)⟩)⟩)⟩)⟩)⟩)⟩)⟩)⟩)⟩)⟩)⟩)⟩)⟩)⟩)⟩)⟩)⟩)⟩)⟩)⟩)⟩)⟩)⟩)
theorem lws_wsX6_letOut_r3 : ∀ w ∈ wsX6_letOut_r3, w ∈ wsL_law := by
  unfold wsX6_letOut_r3
  exact (List.forall_mem_cons.mpr ⟨lwm_452, (List.forall_mem_cons.mpr ⟨lwm_451, (List.forall_mem_cons.mpr ⟨lwm_10, (List.forall_mem_cons.mpr ⟨lwm_289, (List.forall_mem_cons.mpr ⟨lwm_249, (List.forall_mem_cons.mpr ⟨lwm_141, (List.forall_mem_cons.mpr ⟨lwm_421, (List.forall_mem_cons.mpr ⟨lwm_420, (List.forall_mem_cons.mpr ⟨lwm_419, (List.forall_mem_cons.mpr ⟨lwm_11, (List.forall_mem_cons.mpr ⟨lwm_418, (List.forall_mem_cons.mpr ⟨lwm_229, (List.forall_mem_cons.mpr ⟨lwm_72, (List.forall_mem_cons.mpr ⟨lwm_71, (List.forall_mem_cons.mpr ⟨lwm_70, (List.forall_mem_cons.mpr ⟨lwm_417, (List.forall_mem_cons.mpr ⟨lwm_416, (List.forall_mem_cons.mpr ⟨lwm_415, (List.forall_mem_cons.mpr ⟨lwm_308, (List.forall_mem_cons.mpr ⟨lwm_307, (List.forall_mem_cons.mpr ⟨lwm_306, (List.forall_mem_cons.mpr ⟨lwm_93, (List.forall_mem_cons.mpr ⟨lwm_92, (fun _ h => absurd h List.not_mem_nil)⟩)⟩)⟩)⟩)⟩)⟩)⟩)⟩)⟩)⟩)⟩)⟩)⟩)⟩)⟩)⟩)⟩)⟩)⟩)⟩)⟩)⟩)⟩)
set_option maxRecDepth 20000 in
theorem ggL_law_X6_letOut : GoodIn wsL_law wsX6_letOut := goodIn_sub (by
  unfold wsX6_letOut
  exact (List.forall_mem_cons.mpr ⟨lwm_447, (List.forall_mem_append.mpr ⟨(List.forall_mem_append.mpr ⟨(List.forall_mem_append.mpr ⟨(List.forall_mem_append.mpr ⟨(List.forall_mem_append.mpr ⟨lws_wsX6_letOut_r1, (List.forall_mem_append.mpr ⟨lws_wsX6_letOut_r2, lws_wsX6_letOut_r3⟩)⟩), inlX6⟩), inlX5⟩), inlX3⟩), inlX0⟩)⟩)) (by decide +kernel)
theorem lws_wsX7_letOut_r1 : ∀ w ∈ wsX7_letOut_r1, w ∈ wsL_law := by
  unfold wsX7_letOut_r1
  exact (List.forall_mem_cons.mpr ⟨lwm_139, (List.forall_mem_cons.mpr ⟨lwm_115, (List.forall_mem_cons.mpr ⟨lwm_114, (List.forall_mem_cons.mpr ⟨lwm_119, (List.forall_mem_cons.mpr ⟨lwm_146, (List.forall_mem_cons.mpr ⟨lwm_145, (List.forall_mem_cons.mpr ⟨lwm_133, (List.forall_mem_cons.mpr ⟨lwm_144, (List.forall_mem_cons.mpr ⟨lwm_136, (List.forall_mem_cons.mpr ⟨lwm_135, (List.forall_mem_cons.mpr ⟨lwm_134, (List.forall_mem_cons.mpr ⟨lwm_132, (List.forall_mem_cons.mpr ⟨lwm_123, (List.forall_mem_cons.mpr ⟨lwm_122, (List.forall_mem_cons.mpr ⟨lwm_441, (List.forall_mem_cons.mpr ⟨lwm_440, (List.forall_mem_cons.mpr ⟨lwm_439, (List.forall_mem_cons.mpr ⟨lwm_438, (List.forall_mem_cons.mpr ⟨lwm_237, (List.forall_mem_cons.mpr ⟨lwm_116, (List.forall_mem_cons.mpr ⟨lwm_319, (List.forall_mem_cons.mpr ⟨lwm_318, (List.forall_mem_cons.mpr ⟨lwm_317, (List.forall_mem_cons.mpr ⟨lwm_316, (fun _ h => absurd h List.not_mem_nil)⟩)⟩)⟩)⟩)⟩)⟩)⟩)⟩)⟩)⟩)⟩)⟩)⟩)⟩)⟩)⟩)⟩)⟩)⟩)⟩)⟩)⟩)⟩)⟩)
theorem lws_wsX7_letOut_r2 : ∀ w ∈ wsX7_letOut_r2, w ∈ wsL_law := by
  unfold wsX7_letOut_r2
  exact (List.forall_mem_cons.mpr ⟨lwm_137, (List.forall_mem_cons.mpr ⟨lwm_238, (List.forall_mem_cons.mpr ⟨lwm_113, (List.forall_mem_cons.mpr ⟨lwm_124, (List.forall_mem_cons.mpr ⟨lwm_315, (List.forall_mem_cons.mpr ⟨lwm_314, (List.forall_mem_cons.mpr ⟨lwm_313, (List.forall_mem_cons.mpr ⟨lwm_312, (List.forall_mem_cons.mpr ⟨lwm_258, (List.forall_mem_cons.mpr ⟨lwm_257, (List.forall_mem_cons.mpr ⟨lwm_256, (List.forall_mem_cons.mpr ⟨lwm_371, (List.forall_mem_cons.mpr ⟨lwm_370, (List.forall_mem_cons.mpr ⟨lwm_369, (List.forall_mem_cons.mpr ⟨lwm_368, (List.forall_mem_cons.mpr ⟨lwm_112, (List.forall_mem_cons.mpr ⟨lwm_138, (List.forall_mem_cons.mpr ⟨lwm_239, (List.forall_mem_cons.mpr ⟨lwm_121, (fun _ h => absurd h List.not_mem_nil)⟩)⟩)⟩)⟩)⟩)⟩)⟩)⟩)⟩)⟩)⟩)⟩)⟩)⟩)⟩)⟩)⟩)⟩)⟩)
set_option maxRecDepth 20000 in
theorem ggL_law_X7_letOut : GoodIn wsL_law wsX7_letOut := goodIn_sub (by
  unfold wsX7_letOut
  exact (List.forall_mem_cons.mpr ⟨lwm_453, (List.forall_mem_append.mpr ⟨(List.forall_mem_append.mpr ⟨lws_wsX7_letOut_r1, lws_wsX7_letOut_r2⟩), inlX7⟩)⟩)) (by decide +kernel)
theorem lws_wsX6_coldHands_r1 : ∀ w ∈ wsX6_coldHands_r1, w ∈ wsL_law := by
  unfold wsX6_coldHands_r1
  exact (List.forall_mem_cons.mpr ⟨lwm_42, (List.forall_mem_cons.mpr ⟨lwm_46, (List.forall_mem_cons.mpr ⟨lwm_10, (List.forall_mem_cons.mpr ⟨lwm_404, (List.forall_mem_cons.mpr ⟨lwm_403, (List.forall_mem_cons.mpr ⟨lwm_402, (List.forall_mem_cons.mpr ⟨lwm_43, (List.forall_mem_cons.mpr ⟨lwm_414, (List.forall_mem_cons.mpr ⟨lwm_86, (List.forall_mem_cons.mpr ⟨lwm_50, (List.forall_mem_cons.mpr ⟨lwm_275, (List.forall_mem_cons.mpr ⟨lwm_274, (List.forall_mem_cons.mpr ⟨lwm_273, (List.forall_mem_cons.mpr ⟨lwm_272, (List.forall_mem_cons.mpr ⟨lwm_413, (List.forall_mem_cons.mpr ⟨lwm_278, (List.forall_mem_cons.mpr ⟨lwm_277, (List.forall_mem_cons.mpr ⟨lwm_276, (List.forall_mem_cons.mpr ⟨lwm_94, (List.forall_mem_cons.mpr ⟨lwm_152, (List.forall_mem_cons.mpr ⟨lwm_49, (List.forall_mem_cons.mpr ⟨lwm_96, (List.forall_mem_cons.mpr ⟨lwm_85, (List.forall_mem_cons.mpr ⟨lwm_84, (fun _ h => absurd h List.not_mem_nil)⟩)⟩)⟩)⟩)⟩)⟩)⟩)⟩)⟩)⟩)⟩)⟩)⟩)⟩)⟩)⟩)⟩)⟩)⟩)⟩)⟩)⟩)⟩)⟩)
theorem lws_wsX6_coldHands_r2 : ∀ w ∈ wsX6_coldHands_r2, w ∈ wsL_law := by
  unfold wsX6_coldHands_r2
  exact (List.forall_mem_cons.mpr ⟨lwm_83, (List.forall_mem_cons.mpr ⟨lwm_19, (List.forall_mem_cons.mpr ⟨lwm_82, (List.forall_mem_cons.mpr ⟨lwm_35, (List.forall_mem_cons.mpr ⟨lwm_219, (List.forall_mem_cons.mpr ⟨lwm_99, (List.forall_mem_cons.mpr ⟨lwm_98, (List.forall_mem_cons.mpr ⟨lwm_97, (List.forall_mem_cons.mpr ⟨lwm_305, (List.forall_mem_cons.mpr ⟨lwm_304, (List.forall_mem_cons.mpr ⟨lwm_303, (List.forall_mem_cons.mpr ⟨lwm_302, (List.forall_mem_cons.mpr ⟨lwm_95, (List.forall_mem_cons.mpr ⟨lwm_301, (List.forall_mem_cons.mpr ⟨lwm_300, (List.forall_mem_cons.mpr ⟨lwm_299, (List.forall_mem_cons.mpr ⟨lwm_298, (List.forall_mem_cons.mpr ⟨lwm_297, (List.forall_mem_cons.mpr ⟨lwm_296, (List.forall_mem_cons.mpr ⟨lwm_295, (List.forall_mem_cons.mpr ⟨lwm_294, (List.forall_mem_cons.mpr ⟨lwm_421, (List.forall_mem_cons.mpr ⟨lwm_420, (List.forall_mem_cons.mpr ⟨lwm_419, (fun _ h => absurd h List.not_mem_nil)⟩)⟩)⟩)⟩)⟩)⟩)⟩)⟩)⟩)⟩)⟩)⟩)⟩)⟩)⟩)⟩)⟩)⟩)⟩)⟩)⟩)⟩)⟩)⟩)
theorem lws_wsX6_coldHands_r3 : ∀ w ∈ wsX6_coldHands_r3, w ∈ wsL_law := by
  unfold wsX6_coldHands_r3
  exact (List.forall_mem_cons.mpr ⟨lwm_11, (List.forall_mem_cons.mpr ⟨lwm_418, (List.forall_mem_cons.mpr ⟨lwm_229, (List.forall_mem_cons.mpr ⟨lwm_72, (List.forall_mem_cons.mpr ⟨lwm_71, (List.forall_mem_cons.mpr ⟨lwm_70, (List.forall_mem_cons.mpr ⟨lwm_417, (List.forall_mem_cons.mpr ⟨lwm_416, (List.forall_mem_cons.mpr ⟨lwm_415, (List.forall_mem_cons.mpr ⟨lwm_308, (List.forall_mem_cons.mpr ⟨lwm_307, (List.forall_mem_cons.mpr ⟨lwm_306, (List.forall_mem_cons.mpr ⟨lwm_93, (List.forall_mem_cons.mpr ⟨lwm_92, (fun _ h => absurd h List.not_mem_nil)⟩)⟩)⟩)⟩)⟩)⟩)⟩)⟩)⟩)⟩)⟩)⟩)⟩)⟩)
set_option maxRecDepth 20000 in
theorem ggL_law_X6_coldHands : GoodIn wsL_law wsX6_coldHands := goodIn_sub (by
  unfold wsX6_coldHands
  exact (List.forall_mem_cons.mpr ⟨lwm_454, (List.forall_mem_append.mpr ⟨(List.forall_mem_append.mpr ⟨(List.forall_mem_append.mpr ⟨(List.forall_mem_append.mpr ⟨(List.forall_mem_append.mpr ⟨lws_wsX6_coldHands_r1, (List.forall_mem_append.mpr ⟨lws_wsX6_coldHands_r2, lws_wsX6_coldHands_r3⟩)⟩), inlX6⟩), inlX5⟩), inlX3⟩), inlX0⟩)⟩)) (by decide +kernel)
theorem lws_wsX7_coldHands_r1 : ∀ w ∈ wsX7_coldHands_r1, w ∈ wsL_law := by
  unfold wsX7_coldHands_r1
  exact (List.forall_mem_cons.mpr ⟨lwm_119, (List.forall_mem_cons.mpr ⟨lwm_139, (List.forall_mem_cons.mpr ⟨lwm_113, (List.forall_mem_cons.mpr ⟨lwm_136, (List.forall_mem_cons.mpr ⟨lwm_135, (List.forall_mem_cons.mpr ⟨lwm_134, (List.forall_mem_cons.mpr ⟨lwm_133, (List.forall_mem_cons.mpr ⟨lwm_132, (List.forall_mem_cons.mpr ⟨lwm_123, (List.forall_mem_cons.mpr ⟨lwm_122, (List.forall_mem_cons.mpr ⟨lwm_441, (List.forall_mem_cons.mpr ⟨lwm_440, (List.forall_mem_cons.mpr ⟨lwm_439, (List.forall_mem_cons.mpr ⟨lwm_438, (List.forall_mem_cons.mpr ⟨lwm_237, (List.forall_mem_cons.mpr ⟨lwm_116, (List.forall_mem_cons.mpr ⟨lwm_319, (List.forall_mem_cons.mpr ⟨lwm_318, (List.forall_mem_cons.mpr ⟨lwm_317, (List.forall_mem_cons.mpr ⟨lwm_316, (List.forall_mem_cons.mpr ⟨lwm_137, (List.forall_mem_cons.mpr ⟨lwm_238, (List.forall_mem_cons.mpr ⟨lwm_124, (List.forall_mem_cons.mpr ⟨lwm_315, (fun _ h => absurd h List.not_mem_nil)⟩)⟩)⟩)⟩)⟩)⟩)⟩)⟩)⟩)⟩)⟩)⟩)⟩)⟩)⟩)⟩)⟩)⟩)⟩)⟩)⟩)⟩)⟩)⟩)
theorem lws_wsX7_coldHands_r2 : ∀ w ∈ wsX7_coldHands_r2, w ∈ wsL_law := by
  unfold wsX7_coldHands_r2
  exact (List.forall_mem_cons.mpr ⟨lwm_314, (List.forall_mem_cons.mpr ⟨lwm_313, (List.forall_mem_cons.mpr ⟨lwm_312, (List.forall_mem_cons.mpr ⟨lwm_146, (List.forall_mem_cons.mpr ⟨lwm_145, (List.forall_mem_cons.mpr ⟨lwm_144, (List.forall_mem_cons.mpr ⟨lwm_258, (List.forall_mem_cons.mpr ⟨lwm_257, (List.forall_mem_cons.mpr ⟨lwm_256, (List.forall_mem_cons.mpr ⟨lwm_371, (List.forall_mem_cons.mpr ⟨lwm_370, (List.forall_mem_cons.mpr ⟨lwm_369, (List.forall_mem_cons.mpr ⟨lwm_368, (List.forall_mem_cons.mpr ⟨lwm_112, (List.forall_mem_cons.mpr ⟨lwm_138, (List.forall_mem_cons.mpr ⟨lwm_239, (List.forall_mem_cons.mpr ⟨lwm_121, (List.forall_mem_cons.mpr ⟨lwm_115, (List.forall_mem_cons.mpr ⟨lwm_114, (fun _ h => absurd h List.not_mem_nil)⟩)⟩)⟩)⟩)⟩)⟩)⟩)⟩)⟩)⟩)⟩)⟩)⟩)⟩)⟩)⟩)⟩)⟩)⟩)
set_option maxRecDepth 20000 in
theorem ggL_law_X7_coldHands : GoodIn wsL_law wsX7_coldHands := goodIn_sub (by
  unfold wsX7_coldHands
  exact (List.forall_mem_cons.mpr ⟨lwm_455, (List.forall_mem_append.mpr ⟨(List.forall_mem_append.mpr ⟨lws_wsX7_coldHands_r1, lws_wsX7_coldHands_r2⟩), inlX7⟩)⟩)) (by decide +kernel)
theorem lws_wsX6_keepLit_r1 : ∀ w ∈ wsX6_keepLit_r1, w ∈ wsL_law := by
  unfold wsX6_keepLit_r1
  exact (List.forall_mem_cons.mpr ⟨lwm_42, (List.forall_mem_cons.mpr ⟨lwm_1, (List.forall_mem_cons.mpr ⟨lwm_47, (List.forall_mem_cons.mpr ⟨lwm_460, (List.forall_mem_cons.mpr ⟨lwm_459, (List.forall_mem_cons.mpr ⟨lwm_458, (List.forall_mem_cons.mpr ⟨lwm_251, (List.forall_mem_cons.mpr ⟨lwm_457, (List.forall_mem_cons.mpr ⟨lwm_279, (List.forall_mem_cons.mpr ⟨lwm_278, (List.forall_mem_cons.mpr ⟨lwm_277, (List.forall_mem_cons.mpr ⟨lwm_43, (List.forall_mem_cons.mpr ⟨lwm_276, (List.forall_mem_cons.mpr ⟨lwm_86, (List.forall_mem_cons.mpr ⟨lwm_94, (List.forall_mem_cons.mpr ⟨lwm_152, (List.forall_mem_cons.mpr ⟨lwm_49, (List.forall_mem_cons.mpr ⟨lwm_96, (List.forall_mem_cons.mpr ⟨lwm_275, (List.forall_mem_cons.mpr ⟨lwm_274, (List.forall_mem_cons.mpr ⟨lwm_273, (List.forall_mem_cons.mpr ⟨lwm_272, (List.forall_mem_cons.mpr ⟨lwm_85, (List.forall_mem_cons.mpr ⟨lwm_84, (fun _ h => absurd h List.not_mem_nil)⟩)⟩)⟩)⟩)⟩)⟩)⟩)⟩)⟩)⟩)⟩)⟩)⟩)⟩)⟩)⟩)⟩)⟩)⟩)⟩)⟩)⟩)⟩)⟩)
theorem lws_wsX6_keepLit_r2 : ∀ w ∈ wsX6_keepLit_r2, w ∈ wsL_law := by
  unfold wsX6_keepLit_r2
  exact (List.forall_mem_cons.mpr ⟨lwm_83, (List.forall_mem_cons.mpr ⟨lwm_19, (List.forall_mem_cons.mpr ⟨lwm_82, (List.forall_mem_cons.mpr ⟨lwm_35, (List.forall_mem_cons.mpr ⟨lwm_219, (List.forall_mem_cons.mpr ⟨lwm_99, (List.forall_mem_cons.mpr ⟨lwm_98, (List.forall_mem_cons.mpr ⟨lwm_97, (List.forall_mem_cons.mpr ⟨lwm_305, (List.forall_mem_cons.mpr ⟨lwm_304, (List.forall_mem_cons.mpr ⟨lwm_303, (List.forall_mem_cons.mpr ⟨lwm_302, (List.forall_mem_cons.mpr ⟨lwm_95, (List.forall_mem_cons.mpr ⟨lwm_301, (List.forall_mem_cons.mpr ⟨lwm_300, (List.forall_mem_cons.mpr ⟨lwm_299, (List.forall_mem_cons.mpr ⟨lwm_298, (List.forall_mem_cons.mpr ⟨lwm_297, (List.forall_mem_cons.mpr ⟨lwm_296, (List.forall_mem_cons.mpr ⟨lwm_295, (List.forall_mem_cons.mpr ⟨lwm_294, (List.forall_mem_cons.mpr ⟨lwm_463, (List.forall_mem_cons.mpr ⟨lwm_462, (List.forall_mem_cons.mpr ⟨lwm_461, (fun _ h => absurd h List.not_mem_nil)⟩)⟩)⟩)⟩)⟩)⟩)⟩)⟩)⟩)⟩)⟩)⟩)⟩)⟩)⟩)⟩)⟩)⟩)⟩)⟩)⟩)⟩)⟩)⟩)
theorem lws_wsX6_keepLit_r3 : ∀ w ∈ wsX6_keepLit_r3, w ∈ wsL_law := by
  unfold wsX6_keepLit_r3
  exact (List.forall_mem_cons.mpr ⟨lwm_473, (List.forall_mem_cons.mpr ⟨lwm_472, (List.forall_mem_cons.mpr ⟨lwm_351, (List.forall_mem_cons.mpr ⟨lwm_350, (List.forall_mem_cons.mpr ⟨lwm_349, (List.forall_mem_cons.mpr ⟨lwm_348, (List.forall_mem_cons.mpr ⟨lwm_347, (List.forall_mem_cons.mpr ⟨lwm_346, (List.forall_mem_cons.mpr ⟨lwm_471, (List.forall_mem_cons.mpr ⟨lwm_470, (List.forall_mem_cons.mpr ⟨lwm_469, (List.forall_mem_cons.mpr ⟨lwm_468, (List.forall_mem_cons.mpr ⟨lwm_467, (List.forall_mem_cons.mpr ⟨lwm_466, (List.forall_mem_cons.mpr ⟨lwm_465, (List.forall_mem_cons.mpr ⟨lwm_464, (List.forall_mem_cons.mpr ⟨lwm_249, (List.forall_mem_cons.mpr ⟨lwm_288, (List.forall_mem_cons.mpr ⟨lwm_287, (List.forall_mem_cons.mpr ⟨lwm_286, (List.forall_mem_cons.mpr ⟨lwm_2, (List.forall_mem_cons.mpr ⟨lwm_285, (List.forall_mem_cons.mpr ⟨lwm_57, (List.forall_mem_cons.mpr ⟨lwm_284, (fun _ h => absurd h List.not_mem_nil)⟩)⟩)⟩)⟩)⟩)⟩)⟩)⟩)⟩)⟩)⟩)⟩)⟩)⟩)⟩)⟩)⟩)⟩)⟩)⟩)⟩)⟩)⟩)⟩)
theorem lws_wsX6_keepLit_r4 : ∀ w ∈ wsX6_keepLit_r4, w ∈ wsL_law := by
  unfold wsX6_keepLit_r4
  exact (List.forall_mem_cons.mpr ⟨lwm_310, (List.forall_mem_cons.mpr ⟨lwm_247, (List.forall_mem_cons.mpr ⟨lwm_246, (List.forall_mem_cons.mpr ⟨lwm_245, (List.forall_mem_cons.mpr ⟨lwm_107, (List.forall_mem_cons.mpr ⟨lwm_267, (fun _ h => absurd h List.not_mem_nil)⟩)⟩)⟩)⟩)⟩)⟩)
set_option maxRecDepth 20000 in
theorem ggL_law_X6_keepLit : GoodIn wsL_law wsX6_keepLit := goodIn_sub (by
  unfold wsX6_keepLit
  exact (List.forall_mem_cons.mpr ⟨lwm_456, (List.forall_mem_append.mpr ⟨(List.forall_mem_append.mpr ⟨(List.forall_mem_append.mpr ⟨(List.forall_mem_append.mpr ⟨(List.forall_mem_append.mpr ⟨lws_wsX6_keepLit_r1, (List.forall_mem_append.mpr ⟨lws_wsX6_keepLit_r2, (List.forall_mem_append.mpr ⟨lws_wsX6_keepLit_r3, lws_wsX6_keepLit_r4⟩)⟩)⟩), inlX6⟩), inlX5⟩), inlX1⟩), inlX3⟩)⟩)) (by decide +kernel)
theorem lws_wsX7_keepLit_r1 : ∀ w ∈ wsX7_keepLit_r1, w ∈ wsL_law := by
  unfold wsX7_keepLit_r1
  exact (List.forall_mem_cons.mpr ⟨lwm_139, (List.forall_mem_cons.mpr ⟨lwm_120, (List.forall_mem_cons.mpr ⟨lwm_486, (List.forall_mem_cons.mpr ⟨lwm_485, (List.forall_mem_cons.mpr ⟨lwm_484, (List.forall_mem_cons.mpr ⟨lwm_133, (List.forall_mem_cons.mpr ⟨lwm_483, (List.forall_mem_cons.mpr ⟨lwm_146, (List.forall_mem_cons.mpr ⟨lwm_145, (List.forall_mem_cons.mpr ⟨lwm_144, (List.forall_mem_cons.mpr ⟨lwm_482, (List.forall_mem_cons.mpr ⟨lwm_481, (List.forall_mem_cons.mpr ⟨lwm_480, (List.forall_mem_cons.mpr ⟨lwm_479, (List.forall_mem_cons.mpr ⟨lwm_119, (List.forall_mem_cons.mpr ⟨lwm_336, (List.forall_mem_cons.mpr ⟨lwm_335, (List.forall_mem_cons.mpr ⟨lwm_334, (List.forall_mem_cons.mpr ⟨lwm_478, (List.forall_mem_cons.mpr ⟨lwm_477, (List.forall_mem_cons.mpr ⟨lwm_476, (List.forall_mem_cons.mpr ⟨lwm_475, (List.forall_mem_cons.mpr ⟨lwm_388, (List.forall_mem_cons.mpr ⟨lwm_387, (fun _ h => absurd h List.not_mem_nil)⟩)⟩)⟩)⟩)⟩)⟩)⟩)⟩)⟩)⟩)⟩)⟩)⟩)⟩)⟩)⟩)⟩)⟩)⟩)⟩)⟩)⟩)⟩)⟩)
theorem lws_wsX7_keepLit_r2 : ∀ w ∈ wsX7_keepLit_r2, w ∈ wsL_law := by
  unfold wsX7_keepLit_r2
  exact (List.forall_mem_cons.mpr ⟨lwm_386, (List.forall_mem_cons.mpr ⟨lwm_385, (List.forall_mem_cons.mpr ⟨lwm_315, (List.forall_mem_cons.mpr ⟨lwm_314, (List.forall_mem_cons.mpr ⟨lwm_313, (List.forall_mem_cons.mpr ⟨lwm_312, (List.forall_mem_cons.mpr ⟨lwm_371, (List.forall_mem_cons.mpr ⟨lwm_370, (List.forall_mem_cons.mpr ⟨lwm_369, (List.forall_mem_cons.mpr ⟨lwm_368, (List.forall_mem_cons.mpr ⟨lwm_112, (List.forall_mem_cons.mpr ⟨lwm_138, (List.forall_mem_cons.mpr ⟨lwm_239, (List.forall_mem_cons.mpr ⟨lwm_121, (List.forall_mem_cons.mpr ⟨lwm_115, (List.forall_mem_cons.mpr ⟨lwm_114, (fun _ h => absurd h List.not_mem_nil)⟩)⟩)⟩)⟩)⟩)⟩)⟩)⟩)⟩)⟩)⟩)⟩)⟩)⟩)⟩)⟩)
set_option maxRecDepth 20000 in
theorem ggL_law_X7_keepLit : GoodIn wsL_law wsX7_keepLit := goodIn_sub (by
  unfold wsX7_keepLit
  exact (List.forall_mem_cons.mpr ⟨lwm_474, (List.forall_mem_append.mpr ⟨(List.forall_mem_append.mpr ⟨lws_wsX7_keepLit_r1, lws_wsX7_keepLit_r2⟩), inlX7⟩)⟩)) (by decide +kernel)
theorem lws_wsX6_oil_r1 : ∀ w ∈ wsX6_oil_r1, w ∈ wsL_law := by
  unfold wsX6_oil_r1
  exact (List.forall_mem_cons.mpr ⟨lwm_42, (List.forall_mem_cons.mpr ⟨lwm_1, (List.forall_mem_cons.mpr ⟨lwm_47, (List.forall_mem_cons.mpr ⟨lwm_490, (List.forall_mem_cons.mpr ⟨lwm_489, (List.forall_mem_cons.mpr ⟨lwm_273, (List.forall_mem_cons.mpr ⟨lwm_488, (List.forall_mem_cons.mpr ⟨lwm_460, (List.forall_mem_cons.mpr ⟨lwm_459, (List.forall_mem_cons.mpr ⟨lwm_458, (List.forall_mem_cons.mpr ⟨lwm_251, (List.forall_mem_cons.mpr ⟨lwm_457, (List.forall_mem_cons.mpr ⟨lwm_279, (List.forall_mem_cons.mpr ⟨lwm_278, (List.forall_mem_cons.mpr ⟨lwm_277, (List.forall_mem_cons.mpr ⟨lwm_43, (List.forall_mem_cons.mpr ⟨lwm_276, (List.forall_mem_cons.mpr ⟨lwm_86, (List.forall_mem_cons.mpr ⟨lwm_94, (List.forall_mem_cons.mpr ⟨lwm_152, (List.forall_mem_cons.mpr ⟨lwm_49, (List.forall_mem_cons.mpr ⟨lwm_96, (List.forall_mem_cons.mpr ⟨lwm_275, (List.forall_mem_cons.mpr ⟨lwm_274, (fun _ h => absurd h List.not_mem_nil)⟩)⟩)⟩)⟩)⟩)⟩)⟩)⟩)⟩)⟩)⟩)⟩)⟩)⟩)⟩)⟩)⟩)⟩)⟩)⟩)⟩)⟩)⟩)⟩)
theorem lws_wsX6_oil_r2 : ∀ w ∈ wsX6_oil_r2, w ∈ wsL_law := by
  unfold wsX6_oil_r2
  exact (List.forall_mem_cons.mpr ⟨lwm_272, (List.forall_mem_cons.mpr ⟨lwm_85, (List.forall_mem_cons.mpr ⟨lwm_84, (List.forall_mem_cons.mpr ⟨lwm_83, (List.forall_mem_cons.mpr ⟨lwm_19, (List.forall_mem_cons.mpr ⟨lwm_82, (List.forall_mem_cons.mpr ⟨lwm_35, (List.forall_mem_cons.mpr ⟨lwm_219, (List.forall_mem_cons.mpr ⟨lwm_99, (List.forall_mem_cons.mpr ⟨lwm_98, (List.forall_mem_cons.mpr ⟨lwm_97, (List.forall_mem_cons.mpr ⟨lwm_305, (List.forall_mem_cons.mpr ⟨lwm_304, (List.forall_mem_cons.mpr ⟨lwm_303, (List.forall_mem_cons.mpr ⟨lwm_302, (List.forall_mem_cons.mpr ⟨lwm_95, (List.forall_mem_cons.mpr ⟨lwm_301, (List.forall_mem_cons.mpr ⟨lwm_300, (List.forall_mem_cons.mpr ⟨lwm_299, (List.forall_mem_cons.mpr ⟨lwm_298, (List.forall_mem_cons.mpr ⟨lwm_297, (List.forall_mem_cons.mpr ⟨lwm_296, (List.forall_mem_cons.mpr ⟨lwm_295, (List.forall_mem_cons.mpr ⟨lwm_294, (fun _ h => absurd h List.not_mem_nil)⟩)⟩)⟩)⟩)⟩)⟩)⟩)⟩)⟩)⟩)⟩)⟩)⟩)⟩)⟩)⟩)⟩)⟩)⟩)⟩)⟩)⟩)⟩)⟩)
theorem lws_wsX6_oil_r3 : ∀ w ∈ wsX6_oil_r3, w ∈ wsL_law := by
  unfold wsX6_oil_r3
  exact (List.forall_mem_cons.mpr ⟨lwm_471, (List.forall_mem_cons.mpr ⟨lwm_470, (List.forall_mem_cons.mpr ⟨lwm_469, (List.forall_mem_cons.mpr ⟨lwm_468, (List.forall_mem_cons.mpr ⟨lwm_271, (List.forall_mem_cons.mpr ⟨lwm_270, (List.forall_mem_cons.mpr ⟨lwm_269, (List.forall_mem_cons.mpr ⟨lwm_2, (List.forall_mem_cons.mpr ⟨lwm_268, (List.forall_mem_cons.mpr ⟨lwm_108, (List.forall_mem_cons.mpr ⟨lwm_58, (List.forall_mem_cons.mpr ⟨lwm_267, (List.forall_mem_cons.mpr ⟨lwm_248, (List.forall_mem_cons.mpr ⟨lwm_247, (List.forall_mem_cons.mpr ⟨lwm_246, (List.forall_mem_cons.mpr ⟨lwm_245, (List.forall_mem_cons.mpr ⟨lwm_107, (List.forall_mem_cons.mpr ⟨lwm_249, (fun _ h => absurd h List.not_mem_nil)⟩)⟩)⟩)⟩)⟩)⟩)⟩)⟩)⟩)⟩)⟩)⟩)⟩)⟩)⟩)⟩)⟩)⟩)
set_option maxRecDepth 20000 in
theorem ggL_law_X6_oil : GoodIn wsL_law wsX6_oil := goodIn_sub (by
  unfold wsX6_oil
  exact (List.forall_mem_cons.mpr ⟨lwm_487, (List.forall_mem_append.mpr ⟨(List.forall_mem_append.mpr ⟨(List.forall_mem_append.mpr ⟨(List.forall_mem_append.mpr ⟨(List.forall_mem_append.mpr ⟨lws_wsX6_oil_r1, (List.forall_mem_append.mpr ⟨lws_wsX6_oil_r2, lws_wsX6_oil_r3⟩)⟩), inlX6⟩), inlX1⟩), inlX5⟩), inlX3⟩)⟩)) (by decide +kernel)
theorem lws_wsX7_oil_r1 : ∀ w ∈ wsX7_oil_r1, w ∈ wsL_law := by
  unfold wsX7_oil_r1
  exact (List.forall_mem_cons.mpr ⟨lwm_120, (List.forall_mem_cons.mpr ⟨lwm_119, (List.forall_mem_cons.mpr ⟨lwm_139, (List.forall_mem_cons.mpr ⟨lwm_111, (List.forall_mem_cons.mpr ⟨lwm_486, (List.forall_mem_cons.mpr ⟨lwm_485, (List.forall_mem_cons.mpr ⟨lwm_484, (List.forall_mem_cons.mpr ⟨lwm_133, (List.forall_mem_cons.mpr ⟨lwm_483, (List.forall_mem_cons.mpr ⟨lwm_146, (List.forall_mem_cons.mpr ⟨lwm_145, (List.forall_mem_cons.mpr ⟨lwm_144, (List.forall_mem_cons.mpr ⟨lwm_336, (List.forall_mem_cons.mpr ⟨lwm_335, (List.forall_mem_cons.mpr ⟨lwm_334, (List.forall_mem_cons.mpr ⟨lwm_429, (List.forall_mem_cons.mpr ⟨lwm_428, (List.forall_mem_cons.mpr ⟨lwm_427, (List.forall_mem_cons.mpr ⟨lwm_315, (List.forall_mem_cons.mpr ⟨lwm_314, (List.forall_mem_cons.mpr ⟨lwm_313, (List.forall_mem_cons.mpr ⟨lwm_312, (List.forall_mem_cons.mpr ⟨lwm_371, (List.forall_mem_cons.mpr ⟨lwm_370, (fun _ h => absurd h List.not_mem_nil)⟩)⟩)⟩)⟩)⟩)⟩)⟩)⟩)⟩)⟩)⟩)⟩)⟩)⟩)⟩)⟩)⟩)⟩)⟩)⟩)⟩)⟩)⟩)⟩)
theorem lws_wsX7_oil_r2 : ∀ w ∈ wsX7_oil_r2, w ∈ wsL_law := by
  unfold wsX7_oil_r2
  exact (List.forall_mem_cons.mpr ⟨lwm_369, (List.forall_mem_cons.mpr ⟨lwm_368, (List.forall_mem_cons.mpr ⟨lwm_112, (List.forall_mem_cons.mpr ⟨lwm_138, (List.forall_mem_cons.mpr ⟨lwm_239, (List.forall_mem_cons.mpr ⟨lwm_121, (List.forall_mem_cons.mpr ⟨lwm_115, (List.forall_mem_cons.mpr ⟨lwm_114, (fun _ h => absurd h List.not_mem_nil)⟩)⟩)⟩)⟩)⟩)⟩)⟩)⟩)
set_option maxRecDepth 20000 in
theorem ggL_law_X7_oil : GoodIn wsL_law wsX7_oil := goodIn_sub (by
  unfold wsX7_oil
  exact (List.forall_mem_cons.mpr ⟨lwm_491, (List.forall_mem_append.mpr ⟨(List.forall_mem_append.mpr ⟨lws_wsX7_oil_r1, lws_wsX7_oil_r2⟩), inlX7⟩)⟩)) (by decide +kernel)
theorem lws_wsX6_night_r1 : ∀ w ∈ wsX6_night_r1, w ∈ wsL_law := by
  unfold wsX6_night_r1
  exact (List.forall_mem_cons.mpr ⟨lwm_42, (List.forall_mem_cons.mpr ⟨lwm_1, (List.forall_mem_cons.mpr ⟨lwm_47, (List.forall_mem_cons.mpr ⟨lwm_451, (List.forall_mem_cons.mpr ⟨lwm_274, (List.forall_mem_cons.mpr ⟨lwm_273, (List.forall_mem_cons.mpr ⟨lwm_272, (List.forall_mem_cons.mpr ⟨lwm_48, (List.forall_mem_cons.mpr ⟨lwm_279, (List.forall_mem_cons.mpr ⟨lwm_278, (List.forall_mem_cons.mpr ⟨lwm_277, (List.forall_mem_cons.mpr ⟨lwm_43, (List.forall_mem_cons.mpr ⟨lwm_276, (List.forall_mem_cons.mpr ⟨lwm_86, (List.forall_mem_cons.mpr ⟨lwm_94, (List.forall_mem_cons.mpr ⟨lwm_152, (List.forall_mem_cons.mpr ⟨lwm_49, (List.forall_mem_cons.mpr ⟨lwm_96, (List.forall_mem_cons.mpr ⟨lwm_275, (List.forall_mem_cons.mpr ⟨lwm_85, (List.forall_mem_cons.mpr ⟨lwm_84, (List.forall_mem_cons.mpr ⟨lwm_83, (List.forall_mem_cons.mpr ⟨lwm_19, (List.forall_mem_cons.mpr ⟨lwm_82, (fun _ h => absurd h List.not_mem_nil)⟩)⟩)⟩)⟩)⟩)⟩)⟩)⟩)⟩)⟩)⟩)⟩)⟩)⟩)⟩)⟩)⟩)⟩)⟩)⟩)⟩)⟩)⟩)⟩)
theorem lws_wsX6_night_r2 : ∀ w ∈ wsX6_night_r2, w ∈ wsL_law := by
  unfold wsX6_night_r2
  exact (List.forall_mem_cons.mpr ⟨lwm_35, (List.forall_mem_cons.mpr ⟨lwm_219, (List.forall_mem_cons.mpr ⟨lwm_99, (List.forall_mem_cons.mpr ⟨lwm_98, (List.forall_mem_cons.mpr ⟨lwm_97, (List.forall_mem_cons.mpr ⟨lwm_305, (List.forall_mem_cons.mpr ⟨lwm_304, (List.forall_mem_cons.mpr ⟨lwm_303, (List.forall_mem_cons.mpr ⟨lwm_302, (List.forall_mem_cons.mpr ⟨lwm_95, (List.forall_mem_cons.mpr ⟨lwm_301, (List.forall_mem_cons.mpr ⟨lwm_300, (List.forall_mem_cons.mpr ⟨lwm_299, (List.forall_mem_cons.mpr ⟨lwm_298, (List.forall_mem_cons.mpr ⟨lwm_297, (List.forall_mem_cons.mpr ⟨lwm_296, (List.forall_mem_cons.mpr ⟨lwm_295, (List.forall_mem_cons.mpr ⟨lwm_294, (List.forall_mem_cons.mpr ⟨lwm_497, (List.forall_mem_cons.mpr ⟨lwm_496, (List.forall_mem_cons.mpr ⟨lwm_251, (List.forall_mem_cons.mpr ⟨lwm_495, (List.forall_mem_cons.mpr ⟨lwm_494, (List.forall_mem_cons.mpr ⟨lwm_493, (fun _ h => absurd h List.not_mem_nil)⟩)⟩)⟩)⟩)⟩)⟩)⟩)⟩)⟩)⟩)⟩)⟩)⟩)⟩)⟩)⟩)⟩)⟩)⟩)⟩)⟩)⟩)⟩)⟩)
theorem lws_wsX6_night_r3 : ∀ w ∈ wsX6_night_r3, w ∈ wsL_law := by
  unfold wsX6_night_r3
  exact (List.forall_mem_cons.mpr ⟨lwm_499, (List.forall_mem_cons.mpr ⟨lwm_390, (List.forall_mem_cons.mpr ⟨lwm_289, (List.forall_mem_cons.mpr ⟨lwm_249, (List.forall_mem_cons.mpr ⟨lwm_141, (List.forall_mem_cons.mpr ⟨lwm_498, (List.forall_mem_cons.mpr ⟨lwm_326, (List.forall_mem_cons.mpr ⟨lwm_325, (List.forall_mem_cons.mpr ⟨lwm_2, (List.forall_mem_cons.mpr ⟨lwm_324, (List.forall_mem_cons.mpr ⟨lwm_108, (List.forall_mem_cons.mpr ⟨lwm_58, (List.forall_mem_cons.mpr ⟨lwm_57, (List.forall_mem_cons.mpr ⟨lwm_107, (List.forall_mem_cons.mpr ⟨lwm_106, (List.forall_mem_cons.mpr ⟨lwm_104, (List.forall_mem_cons.mpr ⟨lwm_103, (List.forall_mem_cons.mpr ⟨lwm_102, (List.forall_mem_cons.mpr ⟨lwm_101, (List.forall_mem_cons.mpr ⟨lwm_100, (List.forall_mem_cons.mpr ⟨lwm_364, (List.forall_mem_cons.mpr ⟨lwm_363, (List.forall_mem_cons.mpr ⟨lwm_362, (List.forall_mem_cons.mpr ⟨lwm_361, (fun _ h => absurd h List.not_mem_nil)⟩)⟩)⟩)⟩)⟩)⟩)⟩)⟩)⟩)⟩)⟩)⟩)⟩)⟩)⟩)⟩)⟩)⟩)⟩)⟩)⟩)⟩)⟩)⟩)
theorem lws_wsX6_night_r4 : ∀ w ∈ wsX6_night_r4, w ∈ wsL_law := by
  unfold wsX6_night_r4
  exact (List.forall_mem_cons.mpr ⟨lwm_284, (List.forall_mem_cons.mpr ⟨lwm_267, (List.forall_mem_cons.mpr ⟨lwm_310, (List.forall_mem_cons.mpr ⟨lwm_247, (List.forall_mem_cons.mpr ⟨lwm_246, (List.forall_mem_cons.mpr ⟨lwm_245, (List.forall_mem_cons.mpr ⟨lwm_366, (List.forall_mem_cons.mpr ⟨lwm_287, (List.forall_mem_cons.mpr ⟨lwm_286, (List.forall_mem_cons.mpr ⟨lwm_285, (List.forall_mem_cons.mpr ⟨lwm_105, (List.forall_mem_cons.mpr ⟨lwm_365, (List.forall_mem_cons.mpr ⟨lwm_345, (List.forall_mem_cons.mpr ⟨lwm_344, (List.forall_mem_cons.mpr ⟨lwm_343, (List.forall_mem_cons.mpr ⟨lwm_342, (List.forall_mem_cons.mpr ⟨lwm_352, (List.forall_mem_cons.mpr ⟨lwm_351, (List.forall_mem_cons.mpr ⟨lwm_350, (List.forall_mem_cons.mpr ⟨lwm_349, (List.forall_mem_cons.mpr ⟨lwm_348, (List.forall_mem_cons.mpr ⟨lwm_347, (List.forall_mem_cons.mpr ⟨lwm_346, (List.forall_mem_cons.mpr ⟨lwm_500, (fun _ h => absurd h List.not_mem_nil)⟩)⟩)⟩)⟩)⟩)⟩)⟩)⟩)⟩)⟩)⟩)⟩)⟩)⟩)⟩)⟩)⟩)⟩)⟩)⟩)⟩)⟩)⟩)⟩)
theorem lws_wsX6_night_r5 : ∀ w ∈ wsX6_night_r5, w ∈ wsL_law := by
  unfold wsX6_night_r5
  exact (List.forall_mem_cons.mpr ⟨lwm_503, (List.forall_mem_cons.mpr ⟨lwm_502, (List.forall_mem_cons.mpr ⟨lwm_501, (fun _ h => absurd h List.not_mem_nil)⟩)⟩)⟩)
set_option maxRecDepth 20000 in
theorem ggL_law_X6_night : GoodIn wsL_law wsX6_night := goodIn_sub (by
  unfold wsX6_night
  exact (List.forall_mem_cons.mpr ⟨lwm_492, (List.forall_mem_append.mpr ⟨(List.forall_mem_append.mpr ⟨(List.forall_mem_append.mpr ⟨(List.forall_mem_append.mpr ⟨(List.forall_mem_append.mpr ⟨lws_wsX6_night_r1, (List.forall_mem_append.mpr ⟨lws_wsX6_night_r2, (List.forall_mem_append.mpr ⟨lws_wsX6_night_r3, (List.forall_mem_append.mpr ⟨lws_wsX6_night_r4, lws_wsX6_night_r5⟩)⟩)⟩)⟩), inlX6⟩), inlX1⟩), inlX5⟩), inlX3⟩)⟩)) (by decide +kernel)
theorem lws_wsX7_night_r1 : ∀ w ∈ wsX7_night_r1, w ∈ wsL_law := by
  unfold wsX7_night_r1
  exact (List.forall_mem_cons.mpr ⟨lwm_120, (List.forall_mem_cons.mpr ⟨lwm_119, (List.forall_mem_cons.mpr ⟨lwm_507, (List.forall_mem_cons.mpr ⟨lwm_506, (List.forall_mem_cons.mpr ⟨lwm_505, (List.forall_mem_cons.mpr ⟨lwm_115, (List.forall_mem_cons.mpr ⟨lwm_139, (List.forall_mem_cons.mpr ⟨lwm_114, (List.forall_mem_cons.mpr ⟨lwm_146, (List.forall_mem_cons.mpr ⟨lwm_145, (List.forall_mem_cons.mpr ⟨lwm_133, (List.forall_mem_cons.mpr ⟨lwm_144, (List.forall_mem_cons.mpr ⟨lwm_336, (List.forall_mem_cons.mpr ⟨lwm_335, (List.forall_mem_cons.mpr ⟨lwm_334, (List.forall_mem_cons.mpr ⟨lwm_371, (List.forall_mem_cons.mpr ⟨lwm_370, (List.forall_mem_cons.mpr ⟨lwm_369, (List.forall_mem_cons.mpr ⟨lwm_368, (List.forall_mem_cons.mpr ⟨lwm_112, (List.forall_mem_cons.mpr ⟨lwm_138, (List.forall_mem_cons.mpr ⟨lwm_239, (List.forall_mem_cons.mpr ⟨lwm_121, (List.forall_mem_cons.mpr ⟨lwm_357, (fun _ h => absurd h List.not_mem_nil)⟩)⟩)⟩)⟩)⟩)⟩)⟩)⟩)⟩)⟩)⟩)⟩)⟩)⟩)⟩)⟩)⟩)⟩)⟩)⟩)⟩)⟩)⟩)⟩)
theorem lws_wsX7_night_r2 : ∀ w ∈ wsX7_night_r2, w ∈ wsL_law := by
  unfold wsX7_night_r2
  exact (List.forall_mem_cons.mpr ⟨lwm_356, (List.forall_mem_cons.mpr ⟨lwm_355, (List.forall_mem_cons.mpr ⟨lwm_354, (List.forall_mem_cons.mpr ⟨lwm_511, (List.forall_mem_cons.mpr ⟨lwm_510, (List.forall_mem_cons.mpr ⟨lwm_509, (List.forall_mem_cons.mpr ⟨lwm_508, (fun _ h => absurd h List.not_mem_nil)⟩)⟩)⟩)⟩)⟩)⟩)⟩)
set_option maxRecDepth 20000 in
theorem ggL_law_X7_night : GoodIn wsL_law wsX7_night := goodIn_sub (by
  unfold wsX7_night
  exact (List.forall_mem_cons.mpr ⟨lwm_504, (List.forall_mem_append.mpr ⟨(List.forall_mem_append.mpr ⟨lws_wsX7_night_r1, lws_wsX7_night_r2⟩), inlX7⟩)⟩)) (by decide +kernel)
theorem lws_wsX6_keep_r1 : ∀ w ∈ wsX6_keep_r1, w ∈ wsL_law := by
  unfold wsX6_keep_r1
  exact (List.forall_mem_cons.mpr ⟨lwm_5, (List.forall_mem_cons.mpr ⟨lwm_1, (List.forall_mem_cons.mpr ⟨lwm_323, (List.forall_mem_cons.mpr ⟨lwm_322, (List.forall_mem_cons.mpr ⟨lwm_321, (List.forall_mem_cons.mpr ⟨lwm_7, (List.forall_mem_cons.mpr ⟨lwm_332, (List.forall_mem_cons.mpr ⟨lwm_224, (List.forall_mem_cons.mpr ⟨lwm_63, (List.forall_mem_cons.mpr ⟨lwm_331, (List.forall_mem_cons.mpr ⟨lwm_330, (List.forall_mem_cons.mpr ⟨lwm_329, (List.forall_mem_cons.mpr ⟨lwm_328, (List.forall_mem_cons.mpr ⟨lwm_327, (List.forall_mem_cons.mpr ⟨lwm_326, (List.forall_mem_cons.mpr ⟨lwm_325, (List.forall_mem_cons.mpr ⟨lwm_2, (List.forall_mem_cons.mpr ⟨lwm_324, (List.forall_mem_cons.mpr ⟨lwm_108, (List.forall_mem_cons.mpr ⟨lwm_58, (List.forall_mem_cons.mpr ⟨lwm_57, (List.forall_mem_cons.mpr ⟨lwm_107, (List.forall_mem_cons.mpr ⟨lwm_106, (List.forall_mem_cons.mpr ⟨lwm_104, (fun _ h => absurd h List.not_mem_nil)⟩)⟩)⟩)⟩)⟩)⟩)⟩)⟩)⟩)⟩)⟩)⟩)⟩)⟩)⟩)⟩)⟩)⟩)⟩)⟩)⟩)⟩)⟩)⟩)
theorem lws_wsX6_keep_r2 : ∀ w ∈ wsX6_keep_r2, w ∈ wsL_law := by
  unfold wsX6_keep_r2
  exact (List.forall_mem_cons.mpr ⟨lwm_103, (List.forall_mem_cons.mpr ⟨lwm_102, (List.forall_mem_cons.mpr ⟨lwm_19, (List.forall_mem_cons.mpr ⟨lwm_101, (List.forall_mem_cons.mpr ⟨lwm_35, (List.forall_mem_cons.mpr ⟨lwm_100, (List.forall_mem_cons.mpr ⟨lwm_99, (List.forall_mem_cons.mpr ⟨lwm_98, (List.forall_mem_cons.mpr ⟨lwm_97, (fun _ h => absurd h List.not_mem_nil)⟩)⟩)⟩)⟩)⟩)⟩)⟩)⟩)⟩)
set_option maxRecDepth 20000 in
theorem ggL_law_X6_keep : GoodIn wsL_law wsX6_keep := goodIn_sub (by
  unfold wsX6_keep
  exact (List.forall_mem_cons.mpr ⟨lwm_512, (List.forall_mem_append.mpr ⟨(List.forall_mem_append.mpr ⟨(List.forall_mem_append.mpr ⟨(List.forall_mem_append.mpr ⟨(List.forall_mem_append.mpr ⟨lws_wsX6_keep_r1, lws_wsX6_keep_r2⟩), inlX6⟩), inlX4⟩), inlX1⟩), inlX3⟩)⟩)) (by decide +kernel)
set_option maxRecDepth 20000 in
theorem ggL_law_X7_keep : GoodIn wsL_law wsX7_keep := goodIn_sub (by
  unfold wsX7_keep
  exact (List.forall_mem_cons.mpr ⟨lwm_513, (List.forall_mem_append.mpr ⟨(List.forall_mem_cons.mpr ⟨lwm_235, (List.forall_mem_cons.mpr ⟨lwm_120, (List.forall_mem_cons.mpr ⟨lwm_117, (List.forall_mem_cons.mpr ⟨lwm_336, (List.forall_mem_cons.mpr ⟨lwm_335, (List.forall_mem_cons.mpr ⟨lwm_133, (List.forall_mem_cons.mpr ⟨lwm_334, (fun _ h => absurd h List.not_mem_nil)⟩)⟩)⟩)⟩)⟩)⟩)⟩), inlX7⟩)⟩)) (by decide +kernel)
theorem lws_wsX6_back_r1 : ∀ w ∈ wsX6_back_r1, w ∈ wsL_law := by
  unfold wsX6_back_r1
  exact (List.forall_mem_cons.mpr ⟨lwm_5, (List.forall_mem_cons.mpr ⟨lwm_1, (List.forall_mem_cons.mpr ⟨lwm_6, (List.forall_mem_cons.mpr ⟨lwm_376, (List.forall_mem_cons.mpr ⟨lwm_375, (List.forall_mem_cons.mpr ⟨lwm_374, (List.forall_mem_cons.mpr ⟨lwm_7, (List.forall_mem_cons.mpr ⟨lwm_373, (List.forall_mem_cons.mpr ⟨lwm_224, (List.forall_mem_cons.mpr ⟨lwm_63, (List.forall_mem_cons.mpr ⟨lwm_327, (List.forall_mem_cons.mpr ⟨lwm_326, (List.forall_mem_cons.mpr ⟨lwm_325, (List.forall_mem_cons.mpr ⟨lwm_2, (List.forall_mem_cons.mpr ⟨lwm_324, (List.forall_mem_cons.mpr ⟨lwm_108, (List.forall_mem_cons.mpr ⟨lwm_58, (List.forall_mem_cons.mpr ⟨lwm_57, (List.forall_mem_cons.mpr ⟨lwm_107, (List.forall_mem_cons.mpr ⟨lwm_106, (List.forall_mem_cons.mpr ⟨lwm_104, (List.forall_mem_cons.mpr ⟨lwm_103, (List.forall_mem_cons.mpr ⟨lwm_102, (List.forall_mem_cons.mpr ⟨lwm_19, (fun _ h => absurd h List.not_mem_nil)⟩)⟩)⟩)⟩)⟩)⟩)⟩)⟩)⟩)⟩)⟩)⟩)⟩)⟩)⟩)⟩)⟩)⟩)⟩)⟩)⟩)⟩)⟩)⟩)
theorem lws_wsX6_back_r2 : ∀ w ∈ wsX6_back_r2, w ∈ wsL_law := by
  unfold wsX6_back_r2
  exact (List.forall_mem_cons.mpr ⟨lwm_101, (List.forall_mem_cons.mpr ⟨lwm_35, (List.forall_mem_cons.mpr ⟨lwm_100, (List.forall_mem_cons.mpr ⟨lwm_99, (List.forall_mem_cons.mpr ⟨lwm_98, (List.forall_mem_cons.mpr ⟨lwm_97, (List.forall_mem_cons.mpr ⟨lwm_228, (List.forall_mem_cons.mpr ⟨lwm_227, (List.forall_mem_cons.mpr ⟨lwm_226, (List.forall_mem_cons.mpr ⟨lwm_225, (fun _ h => absurd h List.not_mem_nil)⟩)⟩)⟩)⟩)⟩)⟩)⟩)⟩)⟩)⟩)
set_option maxRecDepth 20000 in
theorem ggL_law_X6_back : GoodIn wsL_law wsX6_back := goodIn_sub (by
  unfold wsX6_back
  exact (List.forall_mem_cons.mpr ⟨lwm_514, (List.forall_mem_append.mpr ⟨(List.forall_mem_append.mpr ⟨(List.forall_mem_append.mpr ⟨(List.forall_mem_append.mpr ⟨(List.forall_mem_append.mpr ⟨lws_wsX6_back_r1, lws_wsX6_back_r2⟩), inlX6⟩), inlX4⟩), inlX1⟩), inlX3⟩)⟩)) (by decide +kernel)
set_option maxRecDepth 20000 in
theorem ggL_law_X7_back : GoodIn wsL_law wsX7_back := goodIn_sub (by
  unfold wsX7_back
  exact (List.forall_mem_cons.mpr ⟨lwm_515, (List.forall_mem_append.mpr ⟨(List.forall_mem_cons.mpr ⟨lwm_235, (List.forall_mem_cons.mpr ⟨lwm_117, (List.forall_mem_cons.mpr ⟨lwm_120, (List.forall_mem_cons.mpr ⟨lwm_236, (List.forall_mem_cons.mpr ⟨lwm_336, (List.forall_mem_cons.mpr ⟨lwm_335, (List.forall_mem_cons.mpr ⟨lwm_133, (List.forall_mem_cons.mpr ⟨lwm_334, (fun _ h => absurd h List.not_mem_nil)⟩)⟩)⟩)⟩)⟩)⟩)⟩)⟩), inlX7⟩)⟩)) (by decide +kernel)
theorem lws_wsX6_count_r1 : ∀ w ∈ wsX6_count_r1, w ∈ wsL_law := by
  unfold wsX6_count_r1
  exact (List.forall_mem_cons.mpr ⟨lwm_42, (List.forall_mem_cons.mpr ⟨lwm_1, (List.forall_mem_cons.mpr ⟨lwm_10, (List.forall_mem_cons.mpr ⟨lwm_6, (List.forall_mem_cons.mpr ⟨lwm_5, (List.forall_mem_cons.mpr ⟨lwm_142, (List.forall_mem_cons.mpr ⟨lwm_345, (List.forall_mem_cons.mpr ⟨lwm_344, (List.forall_mem_cons.mpr ⟨lwm_343, (List.forall_mem_cons.mpr ⟨lwm_2, (List.forall_mem_cons.mpr ⟨lwm_342, (List.forall_mem_cons.mpr ⟨lwm_107, (List.forall_mem_cons.mpr ⟨lwm_352, (List.forall_mem_cons.mpr ⟨lwm_351, (List.forall_mem_cons.mpr ⟨lwm_350, (List.forall_mem_cons.mpr ⟨lwm_349, (List.forall_mem_cons.mpr ⟨lwm_348, (List.forall_mem_cons.mpr ⟨lwm_347, (List.forall_mem_cons.mpr ⟨lwm_346, (List.forall_mem_cons.mpr ⟨lwm_500, (List.forall_mem_cons.mpr ⟨lwm_503, (List.forall_mem_cons.mpr ⟨lwm_502, (List.forall_mem_cons.mpr ⟨lwm_501, (List.forall_mem_cons.mpr ⟨lwm_108, (fun _ h => absurd h List.not_mem_nil)⟩)⟩)⟩)⟩)⟩)⟩)⟩)⟩)⟩)⟩)⟩)⟩)⟩)⟩)⟩)⟩)⟩)⟩)⟩)⟩)⟩)⟩)⟩)⟩)
theorem lws_wsX6_count_r2 : ∀ w ∈ wsX6_count_r2, w ∈ wsL_law := by
  unfold wsX6_count_r2
  exact (List.forall_mem_cons.mpr ⟨lwm_57, (List.forall_mem_cons.mpr ⟨lwm_267, (List.forall_mem_cons.mpr ⟨lwm_99, (List.forall_mem_cons.mpr ⟨lwm_98, (List.forall_mem_cons.mpr ⟨lwm_19, (List.forall_mem_cons.mpr ⟨lwm_97, (List.forall_mem_cons.mpr ⟨lwm_35, (fun _ h => absurd h List.not_mem_nil)⟩)⟩)⟩)⟩)⟩)⟩)⟩)
set_option maxRecDepth 20000 in
theorem ggL_law_X6_count : GoodIn wsL_law wsX6_count := goodIn_sub (by
  unfold wsX6_count
  exact (List.forall_mem_cons.mpr ⟨lwm_516, (List.forall_mem_append.mpr ⟨(List.forall_mem_append.mpr ⟨(List.forall_mem_append.mpr ⟨(List.forall_mem_append.mpr ⟨(List.forall_mem_append.mpr ⟨(List.forall_mem_append.mpr ⟨(List.forall_mem_append.mpr ⟨lws_wsX6_count_r1, lws_wsX6_count_r2⟩), inlX6⟩), inlX5⟩), inlX1⟩), inlX0⟩), inlX4⟩), inlX3⟩)⟩)) (by decide +kernel)
set_option maxRecDepth 20000 in
theorem ggL_law_X7_count : GoodIn wsL_law wsX7_count := goodIn_sub (by
  unfold wsX7_count
  exact (List.forall_mem_cons.mpr ⟨lwm_517, (List.forall_mem_append.mpr ⟨(List.forall_mem_cons.mpr ⟨lwm_139, (List.forall_mem_cons.mpr ⟨lwm_120, (List.forall_mem_cons.mpr ⟨lwm_237, (List.forall_mem_cons.mpr ⟨lwm_236, (List.forall_mem_cons.mpr ⟨lwm_235, (List.forall_mem_cons.mpr ⟨lwm_148, (List.forall_mem_cons.mpr ⟨lwm_357, (List.forall_mem_cons.mpr ⟨lwm_356, (List.forall_mem_cons.mpr ⟨lwm_355, (List.forall_mem_cons.mpr ⟨lwm_133, (List.forall_mem_cons.mpr ⟨lwm_354, (List.forall_mem_cons.mpr ⟨lwm_511, (List.forall_mem_cons.mpr ⟨lwm_510, (List.forall_mem_cons.mpr ⟨lwm_509, (List.forall_mem_cons.mpr ⟨lwm_508, (fun _ h => absurd h List.not_mem_nil)⟩)⟩)⟩)⟩)⟩)⟩)⟩)⟩)⟩)⟩)⟩)⟩)⟩)⟩)⟩), inlX7⟩)⟩)) (by decide +kernel)
theorem gL_law_X6_init : GoodIn wsL_law (wsX6_init) := ggL_law_X6_init
theorem gL_law_X7_init : GoodIn wsL_law (wsX7_init) := ggL_law_X7_init
theorem gL_law_X6_write : GoodIn wsL_law (wsV RL 15 RX6 yX6_write wsX6_write) := goodIn_app (goodIn_sub (List.forall_mem_cons.mpr ⟨lwm_520, (List.forall_mem_cons.mpr ⟨lwm_519, (List.forall_mem_cons.mpr ⟨lwm_518, (List.forall_mem_cons.mpr ⟨lwm_251, (fun _ h => absurd h List.not_mem_nil)⟩)⟩)⟩)⟩) (by decide +kernel)) ggL_law_X6_write
theorem gL_law_X7_write : GoodIn wsL_law (wsV RL 19 RX7 yX7_write wsX7_write) := goodIn_app (goodIn_sub (List.forall_mem_cons.mpr ⟨lwm_523, (List.forall_mem_cons.mpr ⟨lwm_522, (List.forall_mem_cons.mpr ⟨lwm_521, (List.forall_mem_cons.mpr ⟨lwm_133, (fun _ h => absurd h List.not_mem_nil)⟩)⟩)⟩)⟩) (by decide +kernel)) ggL_law_X7_write
theorem gL_law_X6_wipe : GoodIn wsL_law (wsV RL 20 RX6 yX6_wipe wsX6_wipe) := goodIn_app (goodIn_sub (List.forall_mem_cons.mpr ⟨lwm_526, (List.forall_mem_cons.mpr ⟨lwm_525, (List.forall_mem_cons.mpr ⟨lwm_524, (List.forall_mem_cons.mpr ⟨lwm_251, (fun _ h => absurd h List.not_mem_nil)⟩)⟩)⟩)⟩) (by decide +kernel)) ggL_law_X6_wipe
theorem gL_law_X7_wipe : GoodIn wsL_law (wsV RL 24 RX7 yX7_wipe wsX7_wipe) := goodIn_app (goodIn_sub (List.forall_mem_cons.mpr ⟨lwm_529, (List.forall_mem_cons.mpr ⟨lwm_528, (List.forall_mem_cons.mpr ⟨lwm_527, (List.forall_mem_cons.mpr ⟨lwm_133, (fun _ h => absurd h List.not_mem_nil)⟩)⟩)⟩)⟩) (by decide +kernel)) ggL_law_X7_wipe
theorem gL_law_X6_fault : GoodIn wsL_law (wsV RL 25 RX6 yX6_fault wsX6_fault) := goodIn_app (goodIn_sub (List.forall_mem_cons.mpr ⟨lwm_532, (List.forall_mem_cons.mpr ⟨lwm_531, (List.forall_mem_cons.mpr ⟨lwm_530, (List.forall_mem_cons.mpr ⟨lwm_251, (fun _ h => absurd h List.not_mem_nil)⟩)⟩)⟩)⟩) (by decide +kernel)) ggL_law_X6_fault
theorem gL_law_X7_fault : GoodIn wsL_law (wsV RL 28 RX7 yX7_fault wsX7_fault) := goodIn_app (goodIn_sub (List.forall_mem_cons.mpr ⟨lwm_535, (List.forall_mem_cons.mpr ⟨lwm_534, (List.forall_mem_cons.mpr ⟨lwm_533, (List.forall_mem_cons.mpr ⟨lwm_133, (fun _ h => absurd h List.not_mem_nil)⟩)⟩)⟩)⟩) (by decide +kernel)) ggL_law_X7_fault
theorem gL_law_X6_lay : GoodIn wsL_law (wsV RL 29 RX6 yX6_lay wsX6_lay) := goodIn_app (goodIn_sub (List.forall_mem_cons.mpr ⟨lwm_538, (List.forall_mem_cons.mpr ⟨lwm_537, (List.forall_mem_cons.mpr ⟨lwm_536, (List.forall_mem_cons.mpr ⟨lwm_251, (fun _ h => absurd h List.not_mem_nil)⟩)⟩)⟩)⟩) (by decide +kernel)) ggL_law_X6_lay
theorem gL_law_X7_lay : GoodIn wsL_law (wsV RL 32 RX7 yX7_lay wsX7_lay) := goodIn_app (goodIn_sub (List.forall_mem_cons.mpr ⟨lwm_541, (List.forall_mem_cons.mpr ⟨lwm_540, (List.forall_mem_cons.mpr ⟨lwm_539, (List.forall_mem_cons.mpr ⟨lwm_133, (fun _ h => absurd h List.not_mem_nil)⟩)⟩)⟩)⟩) (by decide +kernel)) ggL_law_X7_lay
theorem gL_law_X6_lantern : GoodIn wsL_law (wsV RL 33 RX6 yX6_lantern wsX6_lantern) := goodIn_app (goodIn_sub (List.forall_mem_cons.mpr ⟨lwm_544, (List.forall_mem_cons.mpr ⟨lwm_543, (List.forall_mem_cons.mpr ⟨lwm_542, (List.forall_mem_cons.mpr ⟨lwm_251, (fun _ h => absurd h List.not_mem_nil)⟩)⟩)⟩)⟩) (by decide +kernel)) ggL_law_X6_lantern
theorem gL_law_X7_lantern : GoodIn wsL_law (wsV RL 37 RX7 yX7_lantern wsX7_lantern) := goodIn_app (goodIn_sub (List.forall_mem_cons.mpr ⟨lwm_547, (List.forall_mem_cons.mpr ⟨lwm_546, (List.forall_mem_cons.mpr ⟨lwm_545, (List.forall_mem_cons.mpr ⟨lwm_133, (fun _ h => absurd h List.not_mem_nil)⟩)⟩)⟩)⟩) (by decide +kernel)) ggL_law_X7_lantern
theorem gL_law_X6_post : GoodIn wsL_law (wsV RL 38 RX6 yX6_post wsX6_post) := goodIn_app (goodIn_sub (List.forall_mem_cons.mpr ⟨lwm_550, (List.forall_mem_cons.mpr ⟨lwm_549, (List.forall_mem_cons.mpr ⟨lwm_548, (List.forall_mem_cons.mpr ⟨lwm_251, (fun _ h => absurd h List.not_mem_nil)⟩)⟩)⟩)⟩) (by decide +kernel)) ggL_law_X6_post
theorem gL_law_X7_post : GoodIn wsL_law (wsV RL 41 RX7 yX7_post wsX7_post) := goodIn_app (goodIn_sub (List.forall_mem_cons.mpr ⟨lwm_553, (List.forall_mem_cons.mpr ⟨lwm_552, (List.forall_mem_cons.mpr ⟨lwm_551, (List.forall_mem_cons.mpr ⟨lwm_133, (fun _ h => absurd h List.not_mem_nil)⟩)⟩)⟩)⟩) (by decide +kernel)) ggL_law_X7_post
theorem gL_law_X6_fill : GoodIn wsL_law (wsV RL 42 RX6 yX6_fill wsX6_fill) := goodIn_app (goodIn_sub (List.forall_mem_cons.mpr ⟨lwm_556, (List.forall_mem_cons.mpr ⟨lwm_555, (List.forall_mem_cons.mpr ⟨lwm_554, (List.forall_mem_cons.mpr ⟨lwm_251, (fun _ h => absurd h List.not_mem_nil)⟩)⟩)⟩)⟩) (by decide +kernel)) ggL_law_X6_fill
theorem gL_law_X7_fill : GoodIn wsL_law (wsV RL 45 RX7 yX7_fill wsX7_fill) := goodIn_app (goodIn_sub (List.forall_mem_cons.mpr ⟨lwm_559, (List.forall_mem_cons.mpr ⟨lwm_558, (List.forall_mem_cons.mpr ⟨lwm_557, (List.forall_mem_cons.mpr ⟨lwm_133, (fun _ h => absurd h List.not_mem_nil)⟩)⟩)⟩)⟩) (by decide +kernel)) ggL_law_X7_fill
theorem gL_law_X6_light : GoodIn wsL_law (wsV RL 46 RX6 yX6_light wsX6_light) := goodIn_app (goodIn_sub (List.forall_mem_cons.mpr ⟨lwm_562, (List.forall_mem_cons.mpr ⟨lwm_561, (List.forall_mem_cons.mpr ⟨lwm_560, (List.forall_mem_cons.mpr ⟨lwm_251, (fun _ h => absurd h List.not_mem_nil)⟩)⟩)⟩)⟩) (by decide +kernel)) ggL_law_X6_light
theorem gL_law_X7_light : GoodIn wsL_law (wsV RL 50 RX7 yX7_light wsX7_light) := goodIn_app (goodIn_sub (List.forall_mem_cons.mpr ⟨lwm_565, (List.forall_mem_cons.mpr ⟨lwm_564, (List.forall_mem_cons.mpr ⟨lwm_563, (List.forall_mem_cons.mpr ⟨lwm_133, (fun _ h => absurd h List.not_mem_nil)⟩)⟩)⟩)⟩) (by decide +kernel)) ggL_law_X7_light
theorem gL_law_X6_change : GoodIn wsL_law (wsV RL 51 RX6 yX6_change wsX6_change) := goodIn_app (goodIn_sub (List.forall_mem_cons.mpr ⟨lwm_568, (List.forall_mem_cons.mpr ⟨lwm_567, (List.forall_mem_cons.mpr ⟨lwm_566, (List.forall_mem_cons.mpr ⟨lwm_251, (fun _ h => absurd h List.not_mem_nil)⟩)⟩)⟩)⟩) (by decide +kernel)) ggL_law_X6_change
theorem gL_law_X7_change : GoodIn wsL_law (wsV RL 54 RX7 yX7_change wsX7_change) := goodIn_app (goodIn_sub (List.forall_mem_cons.mpr ⟨lwm_571, (List.forall_mem_cons.mpr ⟨lwm_570, (List.forall_mem_cons.mpr ⟨lwm_569, (List.forall_mem_cons.mpr ⟨lwm_133, (fun _ h => absurd h List.not_mem_nil)⟩)⟩)⟩)⟩) (by decide +kernel)) ggL_law_X7_change
theorem gL_law_X6_bells : GoodIn wsL_law (wsV RL 55 RX6 yX6_bells wsX6_bells) := goodIn_app (goodIn_sub (List.forall_mem_cons.mpr ⟨lwm_574, (List.forall_mem_cons.mpr ⟨lwm_573, (List.forall_mem_cons.mpr ⟨lwm_572, (List.forall_mem_cons.mpr ⟨lwm_251, (fun _ h => absurd h List.not_mem_nil)⟩)⟩)⟩)⟩) (by decide +kernel)) ggL_law_X6_bells
theorem gL_law_X7_bells : GoodIn wsL_law (wsV RL 58 RX7 yX7_bells wsX7_bells) := goodIn_app (goodIn_sub (List.forall_mem_cons.mpr ⟨lwm_577, (List.forall_mem_cons.mpr ⟨lwm_576, (List.forall_mem_cons.mpr ⟨lwm_575, (List.forall_mem_cons.mpr ⟨lwm_133, (fun _ h => absurd h List.not_mem_nil)⟩)⟩)⟩)⟩) (by decide +kernel)) ggL_law_X7_bells
theorem gL_law_X6_undo : GoodIn wsL_law (wsV RL 59 RX6 yX6_undo wsX6_undo) := goodIn_app (goodIn_sub (List.forall_mem_cons.mpr ⟨lwm_580, (List.forall_mem_cons.mpr ⟨lwm_579, (List.forall_mem_cons.mpr ⟨lwm_578, (List.forall_mem_cons.mpr ⟨lwm_251, (fun _ h => absurd h List.not_mem_nil)⟩)⟩)⟩)⟩) (by decide +kernel)) ggL_law_X6_undo
theorem gL_law_X7_undo : GoodIn wsL_law (wsV RL 62 RX7 yX7_undo wsX7_undo) := goodIn_app (goodIn_sub (List.forall_mem_cons.mpr ⟨lwm_583, (List.forall_mem_cons.mpr ⟨lwm_582, (List.forall_mem_cons.mpr ⟨lwm_581, (List.forall_mem_cons.mpr ⟨lwm_133, (fun _ h => absurd h List.not_mem_nil)⟩)⟩)⟩)⟩) (by decide +kernel)) ggL_law_X7_undo
theorem gL_law_X6_warm : GoodIn wsL_law (wsV RL 63 RX6 yX6_warm wsX6_warm) := goodIn_app (goodIn_sub (List.forall_mem_cons.mpr ⟨lwm_584, (List.forall_mem_cons.mpr ⟨lwm_265, (List.forall_mem_cons.mpr ⟨lwm_264, (List.forall_mem_cons.mpr ⟨lwm_251, (fun _ h => absurd h List.not_mem_nil)⟩)⟩)⟩)⟩) (by decide +kernel)) ggL_law_X6_warm
theorem gL_law_X7_warm : GoodIn wsL_law (wsV RL 66 RX7 yX7_warm wsX7_warm) := goodIn_app (goodIn_sub (List.forall_mem_cons.mpr ⟨lwm_587, (List.forall_mem_cons.mpr ⟨lwm_586, (List.forall_mem_cons.mpr ⟨lwm_585, (List.forall_mem_cons.mpr ⟨lwm_133, (fun _ h => absurd h List.not_mem_nil)⟩)⟩)⟩)⟩) (by decide +kernel)) ggL_law_X7_warm
theorem gL_law_X6_dark : GoodIn wsL_law (wsV RL 67 RX6 yX6_dark wsX6_dark) := goodIn_app (goodIn_sub (List.forall_mem_cons.mpr ⟨lwm_590, (List.forall_mem_cons.mpr ⟨lwm_589, (List.forall_mem_cons.mpr ⟨lwm_588, (List.forall_mem_cons.mpr ⟨lwm_251, (fun _ h => absurd h List.not_mem_nil)⟩)⟩)⟩)⟩) (by decide +kernel)) ggL_law_X6_dark
theorem gL_law_X7_dark : GoodIn wsL_law (wsV RL 70 RX7 yX7_dark wsX7_dark) := goodIn_app (goodIn_sub (List.forall_mem_cons.mpr ⟨lwm_593, (List.forall_mem_cons.mpr ⟨lwm_592, (List.forall_mem_cons.mpr ⟨lwm_591, (List.forall_mem_cons.mpr ⟨lwm_133, (fun _ h => absurd h List.not_mem_nil)⟩)⟩)⟩)⟩) (by decide +kernel)) ggL_law_X7_dark
theorem gL_law_X6_walk : GoodIn wsL_law (wsV RL 71 RX6 yX6_walk wsX6_walk) := goodIn_app (goodIn_sub (List.forall_mem_cons.mpr ⟨lwm_596, (List.forall_mem_cons.mpr ⟨lwm_595, (List.forall_mem_cons.mpr ⟨lwm_594, (List.forall_mem_cons.mpr ⟨lwm_251, (fun _ h => absurd h List.not_mem_nil)⟩)⟩)⟩)⟩) (by decide +kernel)) ggL_law_X6_walk
theorem gL_law_X7_walk : GoodIn wsL_law (wsV RL 74 RX7 yX7_walk wsX7_walk) := goodIn_app (goodIn_sub (List.forall_mem_cons.mpr ⟨lwm_599, (List.forall_mem_cons.mpr ⟨lwm_598, (List.forall_mem_cons.mpr ⟨lwm_597, (List.forall_mem_cons.mpr ⟨lwm_133, (fun _ h => absurd h List.not_mem_nil)⟩)⟩)⟩)⟩) (by decide +kernel)) ggL_law_X7_walk
theorem gL_law_X6_seen : GoodIn wsL_law (wsV RL 75 RX6 yX6_seen wsX6_seen) := goodIn_app (goodIn_sub (List.forall_mem_cons.mpr ⟨lwm_602, (List.forall_mem_cons.mpr ⟨lwm_601, (List.forall_mem_cons.mpr ⟨lwm_600, (List.forall_mem_cons.mpr ⟨lwm_251, (fun _ h => absurd h List.not_mem_nil)⟩)⟩)⟩)⟩) (by decide +kernel)) ggL_law_X6_seen
theorem gL_law_X7_seen : GoodIn wsL_law (wsV RL 79 RX7 yX7_seen wsX7_seen) := goodIn_app (goodIn_sub (List.forall_mem_cons.mpr ⟨lwm_605, (List.forall_mem_cons.mpr ⟨lwm_604, (List.forall_mem_cons.mpr ⟨lwm_603, (List.forall_mem_cons.mpr ⟨lwm_133, (fun _ h => absurd h List.not_mem_nil)⟩)⟩)⟩)⟩) (by decide +kernel)) ggL_law_X7_seen
theorem gL_law_X6_forget : GoodIn wsL_law (wsV RL 80 RX6 yX6_forget wsX6_forget) := goodIn_app (goodIn_sub (List.forall_mem_cons.mpr ⟨lwm_608, (List.forall_mem_cons.mpr ⟨lwm_607, (List.forall_mem_cons.mpr ⟨lwm_606, (List.forall_mem_cons.mpr ⟨lwm_251, (fun _ h => absurd h List.not_mem_nil)⟩)⟩)⟩)⟩) (by decide +kernel)) ggL_law_X6_forget
theorem gL_law_X7_forget : GoodIn wsL_law (wsV RL 83 RX7 yX7_forget wsX7_forget) := goodIn_app (goodIn_sub (List.forall_mem_cons.mpr ⟨lwm_611, (List.forall_mem_cons.mpr ⟨lwm_610, (List.forall_mem_cons.mpr ⟨lwm_609, (List.forall_mem_cons.mpr ⟨lwm_133, (fun _ h => absurd h List.not_mem_nil)⟩)⟩)⟩)⟩) (by decide +kernel)) ggL_law_X7_forget
theorem gL_law_X6_fits : GoodIn wsL_law (wsV RL 84 RX6 yX6_fits wsX6_fits) := goodIn_app (goodIn_sub (List.forall_mem_cons.mpr ⟨lwm_614, (List.forall_mem_cons.mpr ⟨lwm_613, (List.forall_mem_cons.mpr ⟨lwm_612, (List.forall_mem_cons.mpr ⟨lwm_251, (fun _ h => absurd h List.not_mem_nil)⟩)⟩)⟩)⟩) (by decide +kernel)) ggL_law_X6_fits
theorem gL_law_X7_fits : GoodIn wsL_law (wsV RL 87 RX7 yX7_fits wsX7_fits) := goodIn_app (goodIn_sub (List.forall_mem_cons.mpr ⟨lwm_617, (List.forall_mem_cons.mpr ⟨lwm_616, (List.forall_mem_cons.mpr ⟨lwm_615, (List.forall_mem_cons.mpr ⟨lwm_133, (fun _ h => absurd h List.not_mem_nil)⟩)⟩)⟩)⟩) (by decide +kernel)) ggL_law_X7_fits
theorem gL_law_X6_odds : GoodIn wsL_law (wsV RL 88 RX6 yX6_odds wsX6_odds) := goodIn_app (goodIn_sub (List.forall_mem_cons.mpr ⟨lwm_620, (List.forall_mem_cons.mpr ⟨lwm_619, (List.forall_mem_cons.mpr ⟨lwm_618, (List.forall_mem_cons.mpr ⟨lwm_251, (fun _ h => absurd h List.not_mem_nil)⟩)⟩)⟩)⟩) (by decide +kernel)) ggL_law_X6_odds
theorem gL_law_X7_odds : GoodIn wsL_law (wsV RL 91 RX7 yX7_odds wsX7_odds) := goodIn_app (goodIn_sub (List.forall_mem_cons.mpr ⟨lwm_623, (List.forall_mem_cons.mpr ⟨lwm_622, (List.forall_mem_cons.mpr ⟨lwm_621, (List.forall_mem_cons.mpr ⟨lwm_133, (fun _ h => absurd h List.not_mem_nil)⟩)⟩)⟩)⟩) (by decide +kernel)) ggL_law_X7_odds
theorem gL_law_X6_letOut : GoodIn wsL_law (wsV RL 92 RX6 yX6_letOut wsX6_letOut) := goodIn_app (goodIn_sub (List.forall_mem_cons.mpr ⟨lwm_626, (List.forall_mem_cons.mpr ⟨lwm_625, (List.forall_mem_cons.mpr ⟨lwm_624, (List.forall_mem_cons.mpr ⟨lwm_251, (fun _ h => absurd h List.not_mem_nil)⟩)⟩)⟩)⟩) (by decide +kernel)) ggL_law_X6_letOut
theorem gL_law_X7_letOut : GoodIn wsL_law (wsV RL 95 RX7 yX7_letOut wsX7_letOut) := goodIn_app (goodIn_sub (List.forall_mem_cons.mpr ⟨lwm_629, (List.forall_mem_cons.mpr ⟨lwm_628, (List.forall_mem_cons.mpr ⟨lwm_627, (List.forall_mem_cons.mpr ⟨lwm_133, (fun _ h => absurd h List.not_mem_nil)⟩)⟩)⟩)⟩) (by decide +kernel)) ggL_law_X7_letOut
theorem gL_law_X6_coldHands : GoodIn wsL_law (wsV RL 96 RX6 yX6_coldHands wsX6_coldHands) := goodIn_app (goodIn_sub (List.forall_mem_cons.mpr ⟨lwm_632, (List.forall_mem_cons.mpr ⟨lwm_631, (List.forall_mem_cons.mpr ⟨lwm_630, (List.forall_mem_cons.mpr ⟨lwm_251, (fun _ h => absurd h List.not_mem_nil)⟩)⟩)⟩)⟩) (by decide +kernel)) ggL_law_X6_coldHands
theorem gL_law_X7_coldHands : GoodIn wsL_law (wsV RL 99 RX7 yX7_coldHands wsX7_coldHands) := goodIn_app (goodIn_sub (List.forall_mem_cons.mpr ⟨lwm_635, (List.forall_mem_cons.mpr ⟨lwm_634, (List.forall_mem_cons.mpr ⟨lwm_633, (List.forall_mem_cons.mpr ⟨lwm_133, (fun _ h => absurd h List.not_mem_nil)⟩)⟩)⟩)⟩) (by decide +kernel)) ggL_law_X7_coldHands
theorem gL_law_X6_keepLit : GoodIn wsL_law (wsV RL 100 RX6 yX6_keepLit wsX6_keepLit) := goodIn_app (goodIn_sub (List.forall_mem_cons.mpr ⟨lwm_638, (List.forall_mem_cons.mpr ⟨lwm_637, (List.forall_mem_cons.mpr ⟨lwm_636, (List.forall_mem_cons.mpr ⟨lwm_251, (fun _ h => absurd h List.not_mem_nil)⟩)⟩)⟩)⟩) (by decide +kernel)) ggL_law_X6_keepLit
theorem gL_law_X7_keepLit : GoodIn wsL_law (wsV RL 104 RX7 yX7_keepLit wsX7_keepLit) := goodIn_app (goodIn_sub (List.forall_mem_cons.mpr ⟨lwm_641, (List.forall_mem_cons.mpr ⟨lwm_640, (List.forall_mem_cons.mpr ⟨lwm_639, (List.forall_mem_cons.mpr ⟨lwm_133, (fun _ h => absurd h List.not_mem_nil)⟩)⟩)⟩)⟩) (by decide +kernel)) ggL_law_X7_keepLit
theorem gL_law_X6_oil : GoodIn wsL_law (wsV RL 105 RX6 yX6_oil wsX6_oil) := goodIn_app (goodIn_sub (List.forall_mem_cons.mpr ⟨lwm_644, (List.forall_mem_cons.mpr ⟨lwm_643, (List.forall_mem_cons.mpr ⟨lwm_642, (List.forall_mem_cons.mpr ⟨lwm_251, (fun _ h => absurd h List.not_mem_nil)⟩)⟩)⟩)⟩) (by decide +kernel)) ggL_law_X6_oil
theorem gL_law_X7_oil : GoodIn wsL_law (wsV RL 108 RX7 yX7_oil wsX7_oil) := goodIn_app (goodIn_sub (List.forall_mem_cons.mpr ⟨lwm_647, (List.forall_mem_cons.mpr ⟨lwm_646, (List.forall_mem_cons.mpr ⟨lwm_645, (List.forall_mem_cons.mpr ⟨lwm_133, (fun _ h => absurd h List.not_mem_nil)⟩)⟩)⟩)⟩) (by decide +kernel)) ggL_law_X7_oil
theorem gL_law_X6_night : GoodIn wsL_law (wsV RL 109 RX6 yX6_night wsX6_night) := goodIn_app (goodIn_sub (List.forall_mem_cons.mpr ⟨lwm_650, (List.forall_mem_cons.mpr ⟨lwm_649, (List.forall_mem_cons.mpr ⟨lwm_648, (List.forall_mem_cons.mpr ⟨lwm_251, (fun _ h => absurd h List.not_mem_nil)⟩)⟩)⟩)⟩) (by decide +kernel)) ggL_law_X6_night
theorem gL_law_X7_night : GoodIn wsL_law (wsV RL 112 RX7 yX7_night wsX7_night) := goodIn_app (goodIn_sub (List.forall_mem_cons.mpr ⟨lwm_653, (List.forall_mem_cons.mpr ⟨lwm_652, (List.forall_mem_cons.mpr ⟨lwm_651, (List.forall_mem_cons.mpr ⟨lwm_133, (fun _ h => absurd h List.not_mem_nil)⟩)⟩)⟩)⟩) (by decide +kernel)) ggL_law_X7_night
theorem gL_law_X6_keep : GoodIn wsL_law (wsV RL 113 RX6 yX6_keep wsX6_keep) := goodIn_app (goodIn_sub (List.forall_mem_cons.mpr ⟨lwm_656, (List.forall_mem_cons.mpr ⟨lwm_655, (List.forall_mem_cons.mpr ⟨lwm_654, (List.forall_mem_cons.mpr ⟨lwm_251, (fun _ h => absurd h List.not_mem_nil)⟩)⟩)⟩)⟩) (by decide +kernel)) ggL_law_X6_keep
theorem gL_law_X7_keep : GoodIn wsL_law (wsV RL 116 RX7 yX7_keep wsX7_keep) := goodIn_app (goodIn_sub (List.forall_mem_cons.mpr ⟨lwm_659, (List.forall_mem_cons.mpr ⟨lwm_658, (List.forall_mem_cons.mpr ⟨lwm_657, (List.forall_mem_cons.mpr ⟨lwm_133, (fun _ h => absurd h List.not_mem_nil)⟩)⟩)⟩)⟩) (by decide +kernel)) ggL_law_X7_keep
theorem gL_law_X6_back : GoodIn wsL_law (wsV RL 117 RX6 yX6_back wsX6_back) := goodIn_app (goodIn_sub (List.forall_mem_cons.mpr ⟨lwm_662, (List.forall_mem_cons.mpr ⟨lwm_661, (List.forall_mem_cons.mpr ⟨lwm_660, (List.forall_mem_cons.mpr ⟨lwm_251, (fun _ h => absurd h List.not_mem_nil)⟩)⟩)⟩)⟩) (by decide +kernel)) ggL_law_X6_back
theorem gL_law_X7_back : GoodIn wsL_law (wsV RL 120 RX7 yX7_back wsX7_back) := goodIn_app (goodIn_sub (List.forall_mem_cons.mpr ⟨lwm_665, (List.forall_mem_cons.mpr ⟨lwm_664, (List.forall_mem_cons.mpr ⟨lwm_663, (List.forall_mem_cons.mpr ⟨lwm_133, (fun _ h => absurd h List.not_mem_nil)⟩)⟩)⟩)⟩) (by decide +kernel)) ggL_law_X7_back
theorem gL_law_X6_count : GoodIn wsL_law (wsV RL 121 RX6 yX6_count wsX6_count) := goodIn_app (goodIn_sub (List.forall_mem_cons.mpr ⟨lwm_668, (List.forall_mem_cons.mpr ⟨lwm_667, (List.forall_mem_cons.mpr ⟨lwm_666, (List.forall_mem_cons.mpr ⟨lwm_251, (fun _ h => absurd h List.not_mem_nil)⟩)⟩)⟩)⟩) (by decide +kernel)) ggL_law_X6_count
theorem gL_law_X7_count : GoodIn wsL_law (wsV RL 124 RX7 yX7_count wsX7_count) := goodIn_app (goodIn_sub (List.forall_mem_cons.mpr ⟨lwm_671, (List.forall_mem_cons.mpr ⟨lwm_670, (List.forall_mem_cons.mpr ⟨lwm_669, (List.forall_mem_cons.mpr ⟨lwm_133, (fun _ h => absurd h List.not_mem_nil)⟩)⟩)⟩)⟩) (by decide +kernel)) ggL_law_X7_count
