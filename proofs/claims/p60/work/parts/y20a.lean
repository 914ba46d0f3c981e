/-! ===== words of the tables that the JDK's calls use (printed by gen_y20a.py) ===== -/
theorem kv_1683 : Cond.sameMethod "java/lang/AbstractStringBuilder" "java/lang/AbstractStringBuilder" "append" "(Ljava/lang/String;)Ljava/lang/AbstractStringBuilder;" ∈ ev_gw := ev_gi (List.mem_of_getElem? (i := 1683) (by decide +kernel)) (by decide +kernel)
theorem kv_1692 : Cond.superclass "java/lang/StringBuilder" "java/lang/AbstractStringBuilder" ∈ ev_gw := ev_gi (List.mem_of_getElem? (i := 1692) (by decide +kernel)) (by decide +kernel)
theorem kv_1717 : Cond.methodLink "java/util/Arrays" 310 ({ cls := "[B", name := "clone", desc := "()Ljava/lang/Object;" } : MethodName) ∈ ev_gw := ev_gi (List.mem_of_getElem? (i := 1717) (by decide +kernel)) (by decide +kernel)
theorem kv_1718 : Cond.sameMethod "[B" "java/lang/Object" "clone" "()Ljava/lang/Object;" ∈ ev_gw := ev_gi (List.mem_of_getElem? (i := 1718) (by decide +kernel)) (by decide +kernel)
theorem kv_1719 : Cond.native ({ cls := "java/lang/Object", name := "clone", desc := "()Ljava/lang/Object;" } : MethodName) ∈ ev_gw := ev_gi (List.mem_of_getElem? (i := 1719) (by decide +kernel)) (by decide +kernel)
theorem kv_1720 : Cond.instanceMethod ({ cls := "java/lang/Object", name := "clone", desc := "()Ljava/lang/Object;" } : MethodName) ∈ ev_gw := ev_gi (List.mem_of_getElem? (i := 1720) (by decide +kernel)) (by decide +kernel)
theorem kv_1721 : Cond.selects "[B" ({ cls := "[B", name := "clone", desc := "()Ljava/lang/Object;" } : MethodName) ({ cls := "java/lang/Object", name := "clone", desc := "()Ljava/lang/Object;" } : MethodName) ∈ ev_gw := ev_gi (List.mem_of_getElem? (i := 1721) (by decide +kernel)) (by decide +kernel)
theorem kv_1723 : Cond.classLink "java/util/Arrays" 311 "[B" ∈ ev_gw := ev_gi (List.mem_of_getElem? (i := 1723) (by decide +kernel)) (by decide +kernel)
theorem kv_1695 : Cond.privateMethod ({ cls := "java/lang/AbstractStringBuilder", name := "appendNull", desc := "()Ljava/lang/AbstractStringBuilder;" } : MethodName) ∈ ev_ow := sorry
theorem kv_1699 : Cond.privateMethod ({ cls := "java/lang/AbstractStringBuilder", name := "ensureCapacityInternal", desc := "(I)V" } : MethodName) ∈ ev_ow := sorry
theorem kv_1703 : Cond.privateMethod ({ cls := "java/lang/AbstractStringBuilder", name := "newCapacity", desc := "(I)I" } : MethodName) ∈ ev_ow := sorry
theorem kv_1728 : Cond.sameMethod "java/lang/AbstractStringBuilder" "java/lang/AbstractStringBuilder" "isLatin1" "()Z" ∈ ev_gw := ev_gi (List.mem_of_getElem? (i := 1728) (by decide +kernel)) (by decide +kernel)
theorem kv_1748 : Cond.privateMethod ({ cls := "java/lang/AbstractStringBuilder", name := "putStringAt", desc := "(ILjava/lang/String;)V" } : MethodName) ∈ ev_ow := sorry
theorem kv_1752 : Cond.privateMethod ({ cls := "java/lang/AbstractStringBuilder", name := "inflateIfNeededFor", desc := "(Ljava/lang/String;)V" } : MethodName) ∈ ev_ow := sorry
theorem kv_1756 : Cond.privateMethod ({ cls := "java/lang/AbstractStringBuilder", name := "inflate", desc := "()V" } : MethodName) ∈ ev_ow := sorry
theorem kv_1849 : Cond.sameMethod "java/lang/AbstractStringBuilder" "java/lang/AbstractStringBuilder" "getValue" "()[B" ∈ ev_gw := ev_gi (List.mem_of_getElem? (i := 1849) (by decide +kernel)) (by decide +kernel)
theorem kv_1854 : Cond.sameMethod "java/lang/AbstractStringBuilder" "java/lang/AbstractStringBuilder" "length" "()I" ∈ ev_gw := ev_gi (List.mem_of_getElem? (i := 1854) (by decide +kernel)) (by decide +kernel)
theorem kv_1942 : Cond.sameMethod "java/lang/AbstractStringBuilder" "java/lang/AbstractStringBuilder" "appendNull" "()Ljava/lang/AbstractStringBuilder;" ∈ ev_gw := ev_gi (List.mem_of_getElem? (i := 1942) (by decide +kernel)) (by decide +kernel)
theorem kv_1943 : Cond.sameMethod "java/lang/AbstractStringBuilder" "java/lang/AbstractStringBuilder" "ensureCapacityInternal" "(I)V" ∈ ev_gw := ev_gi (List.mem_of_getElem? (i := 1943) (by decide +kernel)) (by decide +kernel)
theorem kv_1944 : Cond.sameMethod "java/lang/AbstractStringBuilder" "java/lang/AbstractStringBuilder" "newCapacity" "(I)I" ∈ ev_gw := ev_gi (List.mem_of_getElem? (i := 1944) (by decide +kernel)) (by decide +kernel)
theorem kv_1945 : Cond.sameMethod "java/lang/AbstractStringBuilder" "java/lang/AbstractStringBuilder" "putStringAt" "(ILjava/lang/String;)V" ∈ ev_gw := ev_gi (List.mem_of_getElem? (i := 1945) (by decide +kernel)) (by decide +kernel)
theorem kv_1946 : Cond.sameMethod "java/lang/AbstractStringBuilder" "java/lang/AbstractStringBuilder" "inflateIfNeededFor" "(Ljava/lang/String;)V" ∈ ev_gw := ev_gi (List.mem_of_getElem? (i := 1946) (by decide +kernel)) (by decide +kernel)
theorem kv_1947 : Cond.sameMethod "java/lang/AbstractStringBuilder" "java/lang/AbstractStringBuilder" "inflate" "()V" ∈ ev_gw := ev_gi (List.mem_of_getElem? (i := 1947) (by decide +kernel)) (by decide +kernel)
theorem kv_1948 : Cond.sameMethod "java/lang/AbstractStringBuilder" "java/lang/AbstractStringBuilder" "append" "(I)Ljava/lang/AbstractStringBuilder;" ∈ ev_gw := ev_gi (List.mem_of_getElem? (i := 1948) (by decide +kernel)) (by decide +kernel)
theorem kv_1949 : Cond.sameMethod "java/lang/AbstractStringBuilder" "java/lang/AbstractStringBuilder" "append" "(C)Ljava/lang/AbstractStringBuilder;" ∈ ev_gw := ev_gi (List.mem_of_getElem? (i := 1949) (by decide +kernel)) (by decide +kernel)
theorem kv_1722 : Cond.castable "[B" "java/lang/Cloneable" ∈ ev_ow := List.mem_filter.mpr ⟨List.mem_of_getElem? (i := 1722) (by decide +kernel), rfl⟩
def m_J4_append_cf1ce : ev_M := (RJ4, (yJ4_append_cf1ce, (cJ4_append_cf1ce, (2, (some (FieldType.object "java/lang/AbstractStringBuilder"), [])))))
def m_J4_length_8abf5 : ev_M := (RJ4, (yJ4_length_8abf5, (cJ4_length_8abf5, (1, (some FieldType.int, [])))))
