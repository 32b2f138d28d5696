/-! THE WORDS that every method's contract stands on: the good ones of the tables' -/
def WALL : List Cond := lw_tbl.filter goodWord
theorem WALL_good : GoodIn WALL WALL := fun _ h => ⟨h, good_of_word (List.mem_filter.mp h).2⟩
theorem WALL_in {w : Cond} (h : w ∈ lw_tbl) (g : goodWord w = true) : w ∈ WALL := List.mem_filter.mpr ⟨h, g⟩
