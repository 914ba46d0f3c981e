/-- the good words of the tables -/
def ev_gw : List Cond := lw_tbl.filter goodWord
theorem ev_gi {w : Cond} (h : w ∈ lw_tbl) (hg : goodWord w = true) : w ∈ ev_gw := List.mem_filter.mpr ⟨h, hg⟩
