/-! ===== words of the tables by their places ===== -/
theorem mt1 (i : Nat) {w : Cond} (hi : tables_1_1[i]? = some w) (hg : goodWord w = true) : w ∈ GT := by
  have h := List.mem_of_getElem? hi
  exact gt_of (List.mem_append_right _ (List.mem_append_left _ (h))) hg
theorem mt2 (i : Nat) {w : Cond} (hi : tables_1_2[i]? = some w) (hg : goodWord w = true) : w ∈ GT := by
  have h := List.mem_of_getElem? hi
  exact gt_of (List.mem_append_right _ (List.mem_append_right _ (List.mem_append_left _ (h)))) hg
theorem mt3 (i : Nat) {w : Cond} (hi : tables_1_3[i]? = some w) (hg : goodWord w = true) : w ∈ GT := by
  have h := List.mem_of_getElem? hi
  exact gt_of (List.mem_append_right _ (List.mem_append_right _ (List.mem_append_right _ (List.mem_append_left _ (h))))) hg
theorem mt4 (i : Nat) {w : Cond} (hi : tables_1_4[i]? = some w) (hg : goodWord w = true) : w ∈ GT := by
  have h := List.mem_of_getElem? hi
  exact gt_of (List.mem_append_right _ (List.mem_append_right _ (List.mem_append_right _ (List.mem_append_right _ (List.mem_append_left _ (h)))))) hg
theorem mt5 (i : Nat) {w : Cond} (hi : tables_1_5[i]? = some w) (hg : goodWord w = true) : w ∈ GT := by
  have h := List.mem_of_getElem? hi
  exact gt_of (List.mem_append_right _ (List.mem_append_right _ (List.mem_append_right _ (List.mem_append_right _ (List.mem_append_right _ (List.mem_append_left _ (h))))))) hg
theorem mt6 (i : Nat) {w : Cond} (hi : tables_1_6[i]? = some w) (hg : goodWord w = true) : w ∈ GT := by
  have h := List.mem_of_getElem? hi
  exact gt_of (List.mem_append_right _ (List.mem_append_right _ (List.mem_append_right _ (List.mem_append_right _ (List.mem_append_right _ (List.mem_append_right _ (h))))))) hg
theorem ms0 (i : Nat) {w : Cond} (hi : (k2_sels lw_privs)[i]? = some w) (hg : goodWord w = true) : w ∈ GT := gt_of (List.mem_append_left _ (List.mem_of_getElem? hi)) hg
theorem wI : Cond.arrayClass (newarray.typeOf .int) ∈ GT := mt1 73 rfl rfl
