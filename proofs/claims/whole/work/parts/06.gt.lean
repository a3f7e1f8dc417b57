/-! OWN ROWS: a world is a numbered family of cells: number i lies at address ad i and holds ct i -/
def gtbl : List Cond := lw_tbl.filter goodWord
theorem gt_good : GoodIn gtbl gtbl := fun _ hw => ⟨hw, good_of_word (List.mem_filter.mp hw).2⟩
theorem gt_in {w : Cond} (h : w ∈ lw_tbl) (hg : goodWord w = true) : w ∈ gtbl := List.mem_filter.mpr ⟨h, hg⟩
theorem gt_sub {args : Array Value} {s : State} (h : ∀ w ∈ lw_tbl, w.before args s = true) : ∀ w ∈ gtbl, w.before args s = true := fun w hw => h w (List.mem_filter.mp hw).1
