/-! ===== the law: every step answers alike ===== -/
section lawl
variable {A : Nat → Int}
theorem st_feed {n : Int} {h : qH} (R : RR n A h h) (hn : n ≤ 512) (x1 x2 x3 x4 x5 : Int)  : ∃ r h1 h2 A', DX9_feed x1 x2 x3 x4 x5 h = some (r, h1) ∧ DX10_feed x1 x2 x3 x4 x5 h1 = some (r, h2) ∧ RR (n + 1) A' h2 h2 :=
  law_step (X := fun h => DX9_feed x1 x2 x3 x4 x5 h) (M := fun h => DX10_feed x1 x2 x3 x4 x5 h) R (fun hc hm R => t_feed R x1 x2 x3 x4 x5) (fun g => F_DX9_feed x1 x2 x3 x4 x5 g) (fun i k a b => by first | omega | exact fun z => z) (fun g => F_DX10_feed x1 x2 x3 x4 x5 g) (fun i k a => by first | omega | exact fun z => z)
theorem st_sea {n : Int} {h : qH} (R : RR n A h h) (hn : n ≤ 512) (x1 : Int)  : ∃ r h1 h2 A', DX9_sea x1 h = some (r, h1) ∧ DX10_sea x1 h1 = some (r, h2) ∧ RR (n + 1) A' h2 h2 :=
  law_step (X := fun h => DX9_sea x1 h) (M := fun h => DX10_sea x1 h) R (fun hc hm R => t_sea R x1) (fun g => F_DX9_sea x1 g) (fun i k a b => by first | omega | exact fun z => z) (fun g => F_DX10_sea x1 g) (fun i k a => by first | omega | exact fun z => z)
theorem st_fault {n : Int} {h : qH} (R : RR n A h h) (hn : n ≤ 512) (x1 : Int)  : ∃ r h1 h2 A', DX9_fault x1 h = some (r, h1) ∧ DX10_fault x1 h1 = some (r, h2) ∧ RR (n + 1) A' h2 h2 :=
  law_step (X := fun h => DX9_fault x1 h) (M := fun h => DX10_fault x1 h) R (fun hc hm R => t_fault R x1) (fun g => F_DX9_fault x1 g) (fun i k a b => by first | omega | exact fun z => z) (fun g => F_DX10_fault x1 g) (fun i k a => by first | omega | exact fun z => z)
theorem st_cell {n : Int} {h : qH} (R : RR n A h h) (hn : n ≤ 512) (x1 : Int)  : ∃ r h1 h2 A', DX9_cell x1 h = some (r, h1) ∧ DX10_cell x1 h1 = some (r, h2) ∧ RR (n + 1) A' h2 h2 :=
  law_step (X := fun h => DX9_cell x1 h) (M := fun h => DX10_cell x1 h) R (fun hc hm R => t_cell R x1) (fun g => F_DX9_cell x1 g) (fun i k a b => by first | omega | exact fun z => z) (fun g => F_DX10_cell x1 g) (fun i k a => by first | omega | exact fun z => z)
theorem st_shore {n : Int} {h : qH} (R : RR n A h h) (hn : n ≤ 512) (x1 x2 : Int)  : ∃ r h1 h2 A', DX9_shore x1 x2 h = some (r, h1) ∧ DX10_shore x1 x2 h1 = some (r, h2) ∧ RR (n + 1) A' h2 h2 :=
  law_step (X := fun h => DX9_shore x1 x2 h) (M := fun h => DX10_shore x1 x2 h) R (fun hc hm R => t_shore R x1 x2) (fun g => F_DX9_shore x1 x2 g) (fun i k a b => by first | omega | exact fun z => z) (fun g => F_DX10_shore x1 x2 g) (fun i k a => by first | omega | exact fun z => z)
theorem st_current {n : Int} {h : qH} (R : RR n A h h) (hn : n ≤ 512) (x1 x2 : Int)  : ∃ r h1 h2 A', DX9_current x1 x2 h = some (r, h1) ∧ DX10_current x1 x2 h1 = some (r, h2) ∧ RR (n + 1) A' h2 h2 :=
  law_step (X := fun h => DX9_current x1 x2 h) (M := fun h => DX10_current x1 x2 h) R (fun hc hm R => t_current R x1 x2) (fun g => F_DX9_current x1 x2 g) (fun i k a b => by first | omega | exact fun z => z) (fun g => F_DX10_current x1 x2 g) (fun i k a => by first | omega | exact fun z => z)
theorem st_wind {n : Int} {h : qH} (R : RR n A h h) (hn : n ≤ 512) (x1 x2 : Int)  : ∃ r h1 h2 A', DX9_wind x1 x2 h = some (r, h1) ∧ DX10_wind x1 x2 h1 = some (r, h2) ∧ RR (n + 1) A' h2 h2 :=
  law_step (X := fun h => DX9_wind x1 x2 h) (M := fun h => DX10_wind x1 x2 h) R (fun hc hm R => t_wind R hn x1 x2) (fun g => F_DX9_wind x1 x2 g) (fun i k a b => by first | omega | exact fun z => z) (fun g => F_DX10_wind x1 x2 g) (fun i k a => by first | omega | exact fun z => z)
theorem st_bottle {n : Int} {h : qH} (R : RR n A h h) (hn : n ≤ 512) (x1 x2 : Int)  : ∃ r h1 h2 A', DX9_bottle x1 x2 h = some (r, h1) ∧ DX10_bottle x1 x2 h1 = some (r, h2) ∧ RR (n + 1) A' h2 h2 :=
  law_step (X := fun h => DX9_bottle x1 x2 h) (M := fun h => DX10_bottle x1 x2 h) R (fun hc hm R => t_bottle R x1 x2) (fun g => F_DX9_bottle x1 x2 g) (fun i k a b => by first | omega | exact fun z => z) (fun g => F_DX10_bottle x1 x2 g) (fun i k a => by first | omega | exact fun z => z)
theorem st_throwsIt {n : Int} {h : qH} (R : RR n A h h) (hn : n ≤ 512) (x1 x2 x3 : Int) (hb : x3 = 0 ∨ x3 = 1) : ∃ r h1 h2 A', DX9_throwsIt x1 x2 x3 h = some (r, h1) ∧ DX10_throwsIt x1 x2 x3 h1 = some (r, h2) ∧ RR (n + 1) A' h2 h2 :=
  law_step (X := fun h => DX9_throwsIt x1 x2 x3 h) (M := fun h => DX10_throwsIt x1 x2 x3 h) R (fun hc hm R => t_throwsIt R hn hb) (fun g => F_DX9_throwsIt x1 x2 x3 g) (fun i k a b => by first | omega | exact fun z => z) (fun g => F_DX10_throwsIt x1 x2 x3 g) (fun i k a => by first | omega | exact fun z => z)
theorem st_tides {n : Int} {h : qH} (R : RR n A h h) (hn : n ≤ 512) (x1 : Int)  : ∃ r h1 h2 A', DX9_tides x1 h = some (r, h1) ∧ DX10_tides x1 h1 = some (r, h2) ∧ RR (n + 1) A' h2 h2 :=
  law_step (X := fun h => DX9_tides x1 h) (M := fun h => DX10_tides x1 h) R (fun hc hm R => t_tides R hn x1) (fun g => F_DX9_tides x1 g) (fun i k a b => by first | omega | exact fun z => z) (fun g => F_DX10_tides x1 g) (fun i k a => by first | omega | exact fun z => z)
theorem st_storm {n : Int} {h : qH} (R : RR n A h h) (hn : n ≤ 512) (x1 x2 : Int)  : ∃ r h1 h2 A', DX9_storm x1 x2 h = some (r, h1) ∧ DX10_storm x1 x2 h1 = some (r, h2) ∧ RR (n + 1) A' h2 h2 :=
  law_step (X := fun h => DX9_storm x1 x2 h) (M := fun h => DX10_storm x1 x2 h) R (fun hc hm R => t_storm R hn x1 x2) (fun g => F_DX9_storm x1 x2 g) (fun i k a b => by first | omega | exact fun z => z) (fun g => F_DX10_storm x1 x2 g) (fun i k a => by first | omega | exact fun z => z)
theorem st_lift {n : Int} {h : qH} (R : RR n A h h) (hn : n ≤ 512) (x1 : Int)  : ∃ r h1 h2 A', DX9_lift x1 h = some (r, h1) ∧ DX10_lift x1 h1 = some (r, h2) ∧ RR (n + 1) A' h2 h2 :=
  law_step (X := fun h => DX9_lift x1 h) (M := fun h => DX10_lift x1 h) R (fun hc hm R => t_lift R hn x1) (fun g => F_DX9_lift x1 g) (fun i k a b => by first | omega | exact fun z => z) (fun g => F_DX10_lift x1 g) (fun i k a => by first | omega | exact fun z => z)
theorem st_undo {n : Int} {h : qH} (R : RR n A h h) (hn : n ≤ 512) (x1 : Int)  : ∃ r h1 h2 A', DX9_undo x1 h = some (r, h1) ∧ DX10_undo x1 h1 = some (r, h2) ∧ RR (n + 1) A' h2 h2 :=
  law_step (X := fun h => DX9_undo x1 h) (M := fun h => DX10_undo x1 h) R (fun hc hm R => t_undo R hn x1) (fun g => F_DX9_undo x1 g) (fun i k a b => by first | omega | exact fun z => z) (fun g => F_DX10_undo x1 g) (fun i k a => by first | omega | exact fun z => z)
theorem st_judge {n : Int} {h : qH} (R : RR n A h h) (hn : n ≤ 512) (x1 x2 : Int)  : ∃ r h1 h2 A', DX9_judge x1 x2 h = some (r, h1) ∧ DX10_judge x1 x2 h1 = some (r, h2) ∧ RR (n + 1) A' h2 h2 :=
  law_step (X := fun h => DX9_judge x1 x2 h) (M := fun h => DX10_judge x1 x2 h) R (fun hc hm R => t_judge R hn x1 x2) (fun g => F_DX9_judge x1 x2 g) (fun i k a b => by first | omega | exact fun z => z) (fun g => F_DX10_judge x1 x2 g) (fun i k a => by first | omega | exact fun z => z)
theorem st_perform {n : Int} {h : qH} (R : RR n A h h) (hn : n ≤ 512) (x1 : Int)  : ∃ r h1 h2 A', DX9_perform x1 h = some (r, h1) ∧ DX10_perform x1 h1 = some (r, h2) ∧ RR (n + 1) A' h2 h2 :=
  law_step (X := fun h => DX9_perform x1 h) (M := fun h => DX10_perform x1 h) R (fun hc hm R => t_perform R hn x1) (fun g => F_DX9_perform x1 g) (fun i k a b => by first | omega | exact fun z => z) (fun g => F_DX10_perform x1 g) (fun i k a => by first | omega | exact fun z => z)
theorem st_season {n : Int} {h : qH} (R : RR n A h h) (hn : n ≤ 512) (x1 x2 : Int)  : ∃ r h1 h2 A', DX9_season x1 x2 h = some (r, h1) ∧ DX10_season x1 x2 h1 = some (r, h2) ∧ RR (n + 1) A' h2 h2 :=
  law_step (X := fun h => DX9_season x1 x2 h) (M := fun h => DX10_season x1 x2 h) R (fun hc hm R => t_season R hn x1 x2) (fun g => F_DX9_season x1 x2 g) (fun i k a b => by first | omega | exact fun z => z) (fun g => F_DX10_season x1 x2 g) (fun i k a => by first | omega | exact fun z => z)
theorem st_fate {n : Int} {h : qH} (R : RR n A h h) (hn : n ≤ 512) (x1 x2 : Int)  : ∃ r h1 h2 A', DX9_fate x1 x2 h = some (r, h1) ∧ DX10_fate x1 x2 h1 = some (r, h2) ∧ RR (n + 1) A' h2 h2 :=
  law_step (X := fun h => DX9_fate x1 x2 h) (M := fun h => DX10_fate x1 x2 h) R (fun hc hm R => t_fate R hn x1 x2) (fun g => F_DX9_fate x1 x2 g) (fun i k a b => by first | omega | exact fun z => z) (fun g => F_DX10_fate x1 x2 g) (fun i k a => by first | omega | exact fun z => z)
theorem st_whereIn {n : Int} {h : qH} (R : RR n A h h) (hn : n ≤ 512) (x1 x2 : Int)  : ∃ r h1 h2 A', DX9_whereIn x1 x2 h = some (r, h1) ∧ DX10_whereIn x1 x2 h1 = some (r, h2) ∧ RR (n + 1) A' h2 h2 :=
  law_step (X := fun h => DX9_whereIn x1 x2 h) (M := fun h => DX10_whereIn x1 x2 h) R (fun hc hm R => t_whereIn R hn x1 x2) (fun g => F_DX9_whereIn x1 x2 g) (fun i k a b => by first | omega | exact fun z => z) (fun g => F_DX10_whereIn x1 x2 g) (fun i k a => by first | omega | exact fun z => z)
theorem st_comesTo {n : Int} {h : qH} (R : RR n A h h) (hn : n ≤ 512) (x1 x2 : Int)  : ∃ r h1 h2 A', DX9_comesTo x1 x2 h = some (r, h1) ∧ DX10_comesTo x1 x2 h1 = some (r, h2) ∧ RR (n + 1) A' h2 h2 :=
  law_step (X := fun h => DX9_comesTo x1 x2 h) (M := fun h => DX10_comesTo x1 x2 h) R (fun hc hm R => t_comesTo R hn x1 x2) (fun g => F_DX9_comesTo x1 x2 g) (fun i k a b => by first | omega | exact fun z => z) (fun g => F_DX10_comesTo x1 x2 g) (fun i k a => by first | omega | exact fun z => z)
theorem st_keeper {n : Int} {h : qH} (R : RR n A h h) (hn : n ≤ 512) (x1 x2 x3 x4 : Int) (hb : x3 = 0 ∨ x3 = 1) : ∃ r h1 h2 A', DX9_keeper x1 x2 x3 x4 h = some (r, h1) ∧ DX10_keeper x1 x2 x3 x4 h1 = some (r, h2) ∧ RR (n + 1) A' h2 h2 :=
  law_step (X := fun h => DX9_keeper x1 x2 x3 x4 h) (M := fun h => DX10_keeper x1 x2 x3 x4 h) R (fun hc hm R => t_keeper R hn hb) (fun g => F_DX9_keeper x1 x2 x3 x4 g) (fun i k a b => by first | omega | exact fun z => z) (fun g => F_DX10_keeper x1 x2 x3 x4 g) (fun i k a => by first | omega | exact fun z => z)
theorem st_reaches {n : Int} {h : qH} (R : RR n A h h) (hn : n ≤ 512) (x1 x2 x3 x4 : Int) (hb : x3 = 0 ∨ x3 = 1) : ∃ r h1 h2 A', DX9_reaches x1 x2 x3 x4 h = some (r, h1) ∧ DX10_reaches x1 x2 x3 x4 h1 = some (r, h2) ∧ RR (n + 1) A' h2 h2 :=
  law_step (X := fun h => DX9_reaches x1 x2 x3 x4 h) (M := fun h => DX10_reaches x1 x2 x3 x4 h) R (fun hc hm R => t_reaches R hn hb) (fun g => F_DX9_reaches x1 x2 x3 x4 g) (fun i k a b => by first | omega | exact fun z => z) (fun g => F_DX10_reaches x1 x2 x3 x4 g) (fun i k a => by first | omega | exact fun z => z)
theorem st_best {n : Int} {h : qH} (R : RR n A h h) (hn : n ≤ 512) (x1 x2 x3 : Int)  : ∃ r h1 h2 A', DX9_best x1 x2 x3 h = some (r, h1) ∧ DX10_best x1 x2 x3 h1 = some (r, h2) ∧ RR (n + 1) A' h2 h2 :=
  law_step (X := fun h => DX9_best x1 x2 x3 h) (M := fun h => DX10_best x1 x2 x3 h) R (fun hc hm R => t_best R hn x1 x2 x3) (fun g => F_DX9_best x1 x2 x3 g) (fun i k a b => by first | omega | exact fun z => z) (fun g => F_DX10_best x1 x2 x3 g) (fun i k a => by first | omega | exact fun z => z)
theorem st_reachers {n : Int} {h : qH} (R : RR n A h h) (hn : n ≤ 512) (x1 : Int)  : ∃ r h1 h2 A', DX9_reachers x1 h = some (r, h1) ∧ DX10_reachers x1 h1 = some (r, h2) ∧ RR (n + 1) A' h2 h2 :=
  law_step (X := fun h => DX9_reachers x1 h) (M := fun h => DX10_reachers x1 h) R (fun hc hm R => t_reachers R hn x1) (fun g => F_DX9_reachers x1 g) (fun i k a b => by first | omega | exact fun z => z) (fun g => F_DX10_reachers x1 g) (fun i k a => by first | omega | exact fun z => z)
theorem st_relay {n : Int} {h : qH} (R : RR n A h h) (hn : n ≤ 512) (x1 x2 x3 : Int)  : ∃ r h1 h2 A', DX9_relay x1 x2 x3 h = some (r, h1) ∧ DX10_relay x1 x2 x3 h1 = some (r, h2) ∧ RR (n + 1) A' h2 h2 :=
  law_step (X := fun h => DX9_relay x1 x2 x3 h) (M := fun h => DX10_relay x1 x2 x3 h) R (fun hc hm R => t_relay R hn x1 x2 x3) (fun g => F_DX9_relay x1 x2 x3 g) (fun i k a b => by first | omega | exact fun z => z) (fun g => F_DX10_relay x1 x2 x3 g) (fun i k a => by first | omega | exact fun z => z)
theorem st_keepers {n : Int} {h : qH} (R : RR n A h h) (hn : n ≤ 512) (x1 : Int)  : ∃ r h1 h2 A', DX9_keepers x1 h = some (r, h1) ∧ DX10_keepers x1 h1 = some (r, h2) ∧ RR (n + 1) A' h2 h2 :=
  law_step (X := fun h => DX9_keepers x1 h) (M := fun h => DX10_keepers x1 h) R (fun hc hm R => t_keepers R hn x1) (fun g => F_DX9_keepers x1 g) (fun i k a b => by first | omega | exact fun z => z) (fun g => F_DX10_keepers x1 g) (fun i k a => by first | omega | exact fun z => z)
theorem st_without {n : Int} {h : qH} (R : RR n A h h) (hn : n ≤ 512) (x1 x2 x3 : Int)  : ∃ r h1 h2 A', DX9_without x1 x2 x3 h = some (r, h1) ∧ DX10_without x1 x2 x3 h1 = some (r, h2) ∧ RR (n + 1) A' h2 h2 :=
  law_step (X := fun h => DX9_without x1 x2 x3 h) (M := fun h => DX10_without x1 x2 x3 h) R (fun hc hm R => t_without R hn x1 x2 x3) (fun g => F_DX9_without x1 x2 x3 g) (fun i k a b => by first | omega | exact fun z => z) (fun g => F_DX10_without x1 x2 x3 g) (fun i k a => by first | omega | exact fun z => z)
theorem st_catches {n : Int} {h : qH} (R : RR n A h h) (hn : n ≤ 512) (x1 x2 : Int)  : ∃ r h1 h2 A', DX9_catches x1 x2 h = some (r, h1) ∧ DX10_catches x1 x2 h1 = some (r, h2) ∧ RR (n + 1) A' h2 h2 :=
  law_step (X := fun h => DX9_catches x1 x2 h) (M := fun h => DX10_catches x1 x2 h) R (fun hc hm R => t_catches R hn x1 x2) (fun g => F_DX9_catches x1 x2 g) (fun i k a b => by first | omega | exact fun z => z) (fun g => F_DX10_catches x1 x2 g) (fun i k a => by first | omega | exact fun z => z)
theorem st_net {n : Int} {h : qH} (R : RR n A h h) (hn : n ≤ 512) (x1 x2 : Int)  : ∃ r h1 h2 A', DX9_net x1 x2 h = some (r, h1) ∧ DX10_net x1 x2 h1 = some (r, h2) ∧ RR (n + 1) A' h2 h2 :=
  law_step (X := fun h => DX9_net x1 x2 h) (M := fun h => DX10_net x1 x2 h) R (fun hc hm R => t_net R hn x1 x2) (fun g => F_DX9_net x1 x2 g) (fun i k a b => by first | omega | exact fun z => z) (fun g => F_DX10_net x1 x2 g) (fun i k a => by first | omega | exact fun z => z)
theorem st_calm {n : Int} {h : qH} (R : RR n A h h) (hn : n ≤ 512) (x1 : Int)  : ∃ r h1 h2 A', DX9_calm x1 h = some (r, h1) ∧ DX10_calm x1 h1 = some (r, h2) ∧ RR (n + 1) A' h2 h2 :=
  law_step (X := fun h => DX9_calm x1 h) (M := fun h => DX10_calm x1 h) R (fun hc hm R => t_calm R hn x1) (fun g => F_DX9_calm x1 g) (fun i k a b => by first | omega | exact fun z => z) (fun g => F_DX10_calm x1 g) (fun i k a => by first | omega | exact fun z => z)
theorem st_deadly {n : Int} {h : qH} (R : RR n A h h) (hn : n ≤ 512) (x1 : Int) (hb : x1 = 0 ∨ x1 = 1) : ∃ r h1 h2 A', DX9_deadly x1 h = some (r, h1) ∧ DX10_deadly x1 h1 = some (r, h2) ∧ RR (n + 1) A' h2 h2 :=
  law_step (X := fun h => DX9_deadly x1 h) (M := fun h => DX10_deadly x1 h) R (fun hc hm R => t_deadly R hn hb) (fun g => F_DX9_deadly x1 g) (fun i k a b => by first | omega | exact fun z => z) (fun g => F_DX10_deadly x1 g) (fun i k a => by first | omega | exact fun z => z)
theorem st_eddy {n : Int} {h : qH} (R : RR n A h h) (hn : n ≤ 512) (x1 x2 : Int) (hb : x2 = 0 ∨ x2 = 1) : ∃ r h1 h2 A', DX9_eddy x1 x2 h = some (r, h1) ∧ DX10_eddy x1 x2 h1 = some (r, h2) ∧ RR (n + 1) A' h2 h2 :=
  law_step (X := fun h => DX9_eddy x1 x2 h) (M := fun h => DX10_eddy x1 x2 h) R (fun hc hm R => t_eddy R hn x1 hb) (fun g => F_DX9_eddy x1 x2 g) (fun i k a b => by first | omega | exact fun z => z) (fun g => F_DX10_eddy x1 x2 g) (fun i k a => by first | omega | exact fun z => z)
theorem st_seen {n : Int} {h : qH} (R : RR n A h h) (hn : n ≤ 512) (x1 : Int)  : ∃ r h1 h2 A', DX9_seen x1 h = some (r, h1) ∧ DX10_seen x1 h1 = some (r, h2) ∧ RR (n + 1) A' h2 h2 :=
  law_step (X := fun h => DX9_seen x1 h) (M := fun h => DX10_seen x1 h) R (fun hc hm R => t_seen R hn x1) (fun g => F_DX9_seen x1 g) (fun i k a b => by first | omega | exact fun z => z) (fun g => F_DX10_seen x1 g) (fun i k a => by first | omega | exact fun z => z)
theorem st_thrower {n : Int} {h : qH} (R : RR n A h h) (hn : n ≤ 512) (x1 x2 x3 : Int)  : ∃ r h1 h2 A', DX9_thrower x1 x2 x3 h = some (r, h1) ∧ DX10_thrower x1 x2 x3 h1 = some (r, h2) ∧ RR (n + 1) A' h2 h2 :=
  law_step (X := fun h => DX9_thrower x1 x2 x3 h) (M := fun h => DX10_thrower x1 x2 x3 h) R (fun hc hm R => t_thrower R hn x1 x2 x3) (fun g => F_DX9_thrower x1 x2 x3 g) (fun i k a b => by first | omega | exact fun z => z) (fun g => F_DX10_thrower x1 x2 x3 g) (fun i k a => by first | omega | exact fun z => z)
theorem st_suspects {n : Int} {h : qH} (R : RR n A h h) (hn : n ≤ 512) (x1 : Int)  : ∃ r h1 h2 A', DX9_suspects x1 h = some (r, h1) ∧ DX10_suspects x1 h1 = some (r, h2) ∧ RR (n + 1) A' h2 h2 :=
  law_step (X := fun h => DX9_suspects x1 h) (M := fun h => DX10_suspects x1 h) R (fun hc hm R => t_suspects R hn x1) (fun g => F_DX9_suspects x1 g) (fun i k a b => by first | omega | exact fun z => z) (fun g => F_DX10_suspects x1 g) (fun i k a => by first | omega | exact fun z => z)
theorem st_numbers {n : Int} {h : qH} (R : RR n A h h) (hn : n ≤ 512) (x1 x2 x3 : Int)  : ∃ r h1 h2 A', DX9_numbers x1 x2 x3 h = some (r, h1) ∧ DX10_numbers x1 x2 x3 h1 = some (r, h2) ∧ RR (n + 1) A' h2 h2 :=
  law_step (X := fun h => DX9_numbers x1 x2 x3 h) (M := fun h => DX10_numbers x1 x2 x3 h) R (fun hc hm R => t_numbers R x1 x2 x3) (fun g => F_DX9_numbers x1 x2 x3 g) (fun i k a b => by first | omega | exact fun z => z) (fun g => F_DX10_numbers x1 x2 x3 g) (fun i k a => by first | omega | exact fun z => z)
theorem st_write {n : Int} {h : qH} (R : RR n A h h) (hn : n ≤ 512) (x1 x2 x3 : Int)  : ∃ r h1 h2 A', DX9_write x1 x2 x3 h = some (r, h1) ∧ DX10_write x1 x2 x3 h1 = some (r, h2) ∧ RR (n + 1) A' h2 h2 :=
  law_step (X := fun h => DX9_write x1 x2 x3 h) (M := fun h => DX10_write x1 x2 x3 h) R (fun hc hm R => t_write R x1 x2 x3) (fun g => F_DX9_write x1 x2 x3 g) (fun i k a b => by first | omega | exact fun z => z) (fun g => F_DX10_write x1 x2 x3 g) (fun i k a => by first | omega | exact fun z => z)
theorem st_lists {n : Int} {h : qH} (R : RR n A h h) (hn : n ≤ 512) (x1 x2 : Int)  : ∃ r h1 h2 A', DX9_lists x1 x2 h = some (r, h1) ∧ DX10_lists x1 x2 h1 = some (r, h2) ∧ RR (n + 1) A' h2 h2 :=
  law_step (X := fun h => DX9_lists x1 x2 h) (M := fun h => DX10_lists x1 x2 h) R (fun hc hm R => t_lists R hn x1 x2) (fun g => F_DX9_lists x1 x2 g) (fun i k a b => by first | omega | exact fun z => z) (fun g => F_DX10_lists x1 x2 g) (fun i k a => by first | omega | exact fun z => z)
theorem st_image {n : Int} {h : qH} (R : RR n A h h) (hn : n ≤ 512) (x1 : Int)  : ∃ r h1 h2 A', DX9_image x1 h = some (r, h1) ∧ DX10_image x1 h1 = some (r, h2) ∧ RR (n + 1) A' h2 h2 :=
  law_step (X := fun h => DX9_image x1 h) (M := fun h => DX10_image x1 h) R (fun hc hm R => t_image R x1) (fun g => F_DX9_image x1 g) (fun i k a b => by first | omega | exact fun z => z) (fun g => F_DX10_image x1 g) (fun i k a => by first | omega | exact fun z => z)
theorem st_restore {n : Int} {h : qH} (R : RR n A h h) (hn : n ≤ 512) (x1 : Int)  : ∃ r h1 h2 A', DX9_restore x1 h = some (r, h1) ∧ DX10_restore x1 h1 = some (r, h2) ∧ RR (n + 1) A' h2 h2 :=
  law_step (X := fun h => DX9_restore x1 h) (M := fun h => DX10_restore x1 h) R (fun hc hm R => t_restore R x1) (fun g => F_DX9_restore x1 g) (fun i k a b => by first | omega | exact fun z => z) (fun g => F_DX10_restore x1 g) (fun i k a => by first | omega | exact fun z => z)
theorem st_count {n : Int} {h : qH} (R : RR n A h h) (hn : n ≤ 512) (x1 : Int)  : ∃ r h1 h2 A', DX9_count x1 h = some (r, h1) ∧ DX10_count x1 h1 = some (r, h2) ∧ RR (n + 1) A' h2 h2 :=
  law_step (X := fun h => DX9_count x1 h) (M := fun h => DX10_count x1 h) R (fun hc hm R => t_count R hn x1) (fun g => F_DX9_count x1 g) (fun i k a b => by first | omega | exact fun z => z) (fun g => F_DX10_count x1 g) (fun i k a => by first | omega | exact fun z => z)
theorem law_l {L : Nat} {xs : Nat → Int32} (hL : L ≤ 3072) : ∀ (m i F : Nat) (A : Nat → Int) (h : qH), i + m = L / 6 → m < F → RR (i : Int) A h h → ∃ h', DL_law_l18 L xs F ((6 * i : Nat) : Int) h = some (1, h') := by
  intro m
  induction m with
  | zero =>
    intro i F A h hi hF R
    obtain ⟨F, rfl⟩ : ∃ n, F = n + 1 := ⟨F - 1, by omega⟩
    rw [DL_law_l18.eq_2, qw_e (x := (L : Int) - 6) (by omega) (by omega), if_pos (by omega)]
    exact ⟨h, rfl⟩
  | succ m ih =>
    intro i F A h hi hF R
    obtain ⟨F, rfl⟩ : ∃ n, F = n + 1 := ⟨F - 1, by omega⟩
    have hn : (i : Int) ≤ 512 := by omega
    have nx : ∀ (A' : Nat → Int) (h2 : qH), RR ((i : Int) + 1) A' h2 h2 → ∃ h', DL_law_l18 L xs F ((6 * i : Nat) + 6 : Int) h2 = some (1, h') := fun A' h2 R2 => by
      have e : ((6 * i : Nat) + 6 : Int) = ((6 * (i + 1) : Nat) : Int) := by omega
      rw [e]
      exact ih (i + 1) F A' h2 (by omega) (by omega) (by rw [show ((i + 1 : Nat) : Int) = (i : Int) + 1 by omega]; exact R2)
    have hx : ∃ a : Int, a = ((6 * i : Nat) : Int) := ⟨_, rfl⟩
    obtain ⟨a, ha⟩ := hx
    rw [← ha] at nx ⊢
    have q1 : qw (a + 1) = a + 1 := qw_e (by omega) (by omega)
    have q2 : qw (a + 2) = a + 2 := qw_e (by omega) (by omega)
    have q3 : qw (a + 3) = a + 3 := qw_e (by omega) (by omega)
    have q4 : qw (a + 4) = a + 4 := qw_e (by omega) (by omega)
    have q5 : qw (a + 5) = a + 5 := qw_e (by omega) (by omega)
    have q6 : qw (a + 6) = a + 6 := qw_e (by omega) (by omega)
    have b0 : (0 ≤ a ∧ a < (L : Int)) = True := eq_true (by omega)
    have b1 : (0 ≤ a + 1 ∧ a + 1 < (L : Int)) = True := eq_true (by omega)
    have b2 : (0 ≤ a + 2 ∧ a + 2 < (L : Int)) = True := eq_true (by omega)
    have b3 : (0 ≤ a + 3 ∧ a + 3 < (L : Int)) = True := eq_true (by omega)
    have b4 : (0 ≤ a + 4 ∧ a + 4 < (L : Int)) = True := eq_true (by omega)
    have b5 : (0 ≤ a + 5 ∧ a + 5 < (L : Int)) = True := eq_true (by omega)
    rw [DL_law_l18.eq_2, qw_e (x := (L : Int) - 6) (by omega) (by omega), if_neg (show ¬ (L : Int) - 6 < a by omega)]
    unfold DL_law_b1238 DL_law_b1255 DL_law_b1283 DL_law_b1305 DL_law_b496 DL_law_b523 DL_law_b845 DL_law_b877 DL_law_b914 DL_law_b946
    simp only [q1, q2, q3, q4, q5, q6, b0, b1, b2, b3, b4, b5, if_true]
    generalize qand ((xs a.toNat).toInt) 63 = op
    by_cases o0 : op = 0
    · rw [if_pos o0]
      obtain ⟨r, h1, h2, A', e1, e2, R2⟩ := st_feed R hn ((xs (a + 1).toNat).toInt) ((xs (a + 2).toNat).toInt) ((xs (a + 3).toNat).toInt) ((xs (a + 4).toNat).toInt) ((xs (a + 5).toNat).toInt)
      rw [e1, qbd_some, e2, qbd_some]
      first | rw [if_pos rfl] | rw [if_pos (qcmp_z.mpr rfl)]
      exact nx A' h2 R2
    rw [if_neg o0]
    by_cases o1 : op = 1
    · rw [if_pos o1]
      obtain ⟨r, h1, h2, A', e1, e2, R2⟩ := st_sea R hn ((xs (a + 1).toNat).toInt)
      rw [e1, qbd_some, e2, qbd_some]
      first | rw [if_pos rfl] | rw [if_pos (qcmp_z.mpr rfl)]
      exact nx A' h2 R2
    rw [if_neg o1]
    by_cases o2 : op = 2
    · rw [if_pos o2]
      obtain ⟨r, h1, h2, A', e1, e2, R2⟩ := st_fault R hn ((xs (a + 1).toNat).toInt)
      rw [e1, qbd_some, e2, qbd_some]
      first | rw [if_pos rfl] | rw [if_pos (qcmp_z.mpr rfl)]
      exact nx A' h2 R2
    rw [if_neg o2]
    by_cases o3 : op = 3
    · rw [if_pos o3]
      obtain ⟨r, h1, h2, A', e1, e2, R2⟩ := st_cell R hn ((xs (a + 1).toNat).toInt)
      rw [e1, qbd_some, e2, qbd_some]
      first | rw [if_pos rfl] | rw [if_pos (qcmp_z.mpr rfl)]
      exact nx A' h2 R2
    rw [if_neg o3]
    by_cases o4 : op = 4
    · rw [if_pos o4]
      obtain ⟨r, h1, h2, A', e1, e2, R2⟩ := st_shore R hn ((xs (a + 1).toNat).toInt) ((xs (a + 2).toNat).toInt)
      rw [e1, qbd_some, e2, qbd_some]
      first | rw [if_pos rfl] | rw [if_pos (qcmp_z.mpr rfl)]
      exact nx A' h2 R2
    rw [if_neg o4]
    by_cases o5 : op = 5
    · rw [if_pos o5]
      obtain ⟨r, h1, h2, A', e1, e2, R2⟩ := st_current R hn ((xs (a + 1).toNat).toInt) ((xs (a + 2).toNat).toInt)
      rw [e1, qbd_some, e2, qbd_some]
      first | rw [if_pos rfl] | rw [if_pos (qcmp_z.mpr rfl)]
      exact nx A' h2 R2
    rw [if_neg o5]
    by_cases o6 : op = 6
    · rw [if_pos o6]
      obtain ⟨r, h1, h2, A', e1, e2, R2⟩ := st_wind R hn ((xs (a + 1).toNat).toInt) ((xs (a + 2).toNat).toInt)
      rw [e1, qbd_some, e2, qbd_some]
      first | rw [if_pos rfl] | rw [if_pos (qcmp_z.mpr rfl)]
      exact nx A' h2 R2
    rw [if_neg o6]
    by_cases o7 : op = 7
    · rw [if_pos o7]
      obtain ⟨r, h1, h2, A', e1, e2, R2⟩ := st_bottle R hn ((xs (a + 1).toNat).toInt) ((xs (a + 2).toNat).toInt)
      rw [e1, qbd_some, e2, qbd_some]
      first | rw [if_pos rfl] | rw [if_pos (qcmp_z.mpr rfl)]
      exact nx A' h2 R2
    rw [if_neg o7]
    by_cases o8 : op = 8
    · rw [if_pos o8]
      by_cases z : ((xs (a + 3).toNat).toInt) = 0
      · obtain ⟨r, h1, h2, A', e1, e2, R2⟩ := st_throwsIt R hn ((xs (a + 1).toNat).toInt) ((xs (a + 2).toNat).toInt) 0 (Or.inl rfl)
        rw [if_pos z, e1, qbd_some, if_pos z, e2, qbd_some]
        first | rw [if_pos rfl] | rw [if_pos (qcmp_z.mpr rfl)]
        exact nx A' h2 R2
      · obtain ⟨r, h1, h2, A', e1, e2, R2⟩ := st_throwsIt R hn ((xs (a + 1).toNat).toInt) ((xs (a + 2).toNat).toInt) 1 (Or.inr rfl)
        rw [if_neg z, e1, qbd_some, if_neg z, e2, qbd_some]
        first | rw [if_pos rfl] | rw [if_pos (qcmp_z.mpr rfl)]
        exact nx A' h2 R2
    rw [if_neg o8]
    by_cases o9 : op = 9
    · rw [if_pos o9]
      obtain ⟨r, h1, h2, A', e1, e2, R2⟩ := st_tides R hn ((xs (a + 1).toNat).toInt)
      rw [e1, qbd_some, e2, qbd_some]
      first | rw [if_pos rfl] | rw [if_pos (qcmp_z.mpr rfl)]
      exact nx A' h2 R2
    rw [if_neg o9]
    by_cases o10 : op = 10
    · rw [if_pos o10]
      obtain ⟨r, h1, h2, A', e1, e2, R2⟩ := st_storm R hn ((xs (a + 1).toNat).toInt) ((xs (a + 2).toNat).toInt)
      rw [e1, qbd_some, e2, qbd_some]
      first | rw [if_pos rfl] | rw [if_pos (qcmp_z.mpr rfl)]
      exact nx A' h2 R2
    rw [if_neg o10]
    by_cases o11 : op = 11
    · rw [if_pos o11]
      obtain ⟨r, h1, h2, A', e1, e2, R2⟩ := st_lift R hn ((xs (a + 1).toNat).toInt)
      rw [e1, qbd_some, e2, qbd_some]
      first | rw [if_pos rfl] | rw [if_pos (qcmp_z.mpr rfl)]
      exact nx A' h2 R2
    rw [if_neg o11]
    by_cases o12 : op = 12
    · rw [if_pos o12]
      obtain ⟨r, h1, h2, A', e1, e2, R2⟩ := st_undo R hn ((xs (a + 1).toNat).toInt)
      rw [e1, qbd_some, e2, qbd_some]
      first | rw [if_pos rfl] | rw [if_pos (qcmp_z.mpr rfl)]
      exact nx A' h2 R2
    rw [if_neg o12]
    by_cases o13 : op = 13
    · rw [if_pos o13]
      obtain ⟨r, h1, h2, A', e1, e2, R2⟩ := st_judge R hn ((xs (a + 1).toNat).toInt) ((xs (a + 2).toNat).toInt)
      rw [e1, qbd_some, e2, qbd_some]
      first | rw [if_pos rfl] | rw [if_pos (qcmp_z.mpr rfl)]
      exact nx A' h2 R2
    rw [if_neg o13]
    by_cases o14 : op = 14
    · rw [if_pos o14]
      obtain ⟨r, h1, h2, A', e1, e2, R2⟩ := st_perform R hn ((xs (a + 1).toNat).toInt)
      rw [e1, qbd_some, e2, qbd_some]
      first | rw [if_pos rfl] | rw [if_pos (qcmp_z.mpr rfl)]
      exact nx A' h2 R2
    rw [if_neg o14]
    by_cases o15 : op = 15
    · rw [if_pos o15]
      obtain ⟨r, h1, h2, A', e1, e2, R2⟩ := st_season R hn ((xs (a + 1).toNat).toInt) ((xs (a + 2).toNat).toInt)
      rw [e1, qbd_some, e2, qbd_some]
      first | rw [if_pos rfl] | rw [if_pos (qcmp_z.mpr rfl)]
      exact nx A' h2 R2
    rw [if_neg o15]
    by_cases o16 : op = 16
    · rw [if_pos o16]
      obtain ⟨r, h1, h2, A', e1, e2, R2⟩ := st_fate R hn ((xs (a + 1).toNat).toInt) ((xs (a + 2).toNat).toInt)
      rw [e1, qbd_some, e2, qbd_some]
      first | rw [if_pos rfl] | rw [if_pos (qcmp_z.mpr rfl)]
      exact nx A' h2 R2
    rw [if_neg o16]
    by_cases o17 : op = 17
    · rw [if_pos o17]
      obtain ⟨r, h1, h2, A', e1, e2, R2⟩ := st_whereIn R hn ((xs (a + 1).toNat).toInt) ((xs (a + 2).toNat).toInt)
      rw [e1, qbd_some, e2, qbd_some]
      first | rw [if_pos rfl] | rw [if_pos (qcmp_z.mpr rfl)]
      exact nx A' h2 R2
    rw [if_neg o17]
    by_cases o18 : op = 18
    · rw [if_pos o18]
      obtain ⟨r, h1, h2, A', e1, e2, R2⟩ := st_comesTo R hn ((xs (a + 1).toNat).toInt) ((xs (a + 2).toNat).toInt)
      rw [e1, qbd_some, e2, qbd_some]
      first | rw [if_pos rfl] | rw [if_pos (qcmp_z.mpr rfl)]
      exact nx A' h2 R2
    rw [if_neg o18]
    by_cases o19 : op = 19
    · rw [if_pos o19]
      by_cases z : ((xs (a + 3).toNat).toInt) = 0
      · obtain ⟨r, h1, h2, A', e1, e2, R2⟩ := st_keeper R hn ((xs (a + 1).toNat).toInt) ((xs (a + 2).toNat).toInt) 0 ((xs (a + 4).toNat).toInt) (Or.inl rfl)
        rw [if_pos z, e1, qbd_some, if_pos z, e2, qbd_some]
        first | rw [if_pos rfl] | rw [if_pos (qcmp_z.mpr rfl)]
        exact nx A' h2 R2
      · obtain ⟨r, h1, h2, A', e1, e2, R2⟩ := st_keeper R hn ((xs (a + 1).toNat).toInt) ((xs (a + 2).toNat).toInt) 1 ((xs (a + 4).toNat).toInt) (Or.inr rfl)
        rw [if_neg z, e1, qbd_some, if_neg z, e2, qbd_some]
        first | rw [if_pos rfl] | rw [if_pos (qcmp_z.mpr rfl)]
        exact nx A' h2 R2
    rw [if_neg o19]
    by_cases o20 : op = 20
    · rw [if_pos o20]
      by_cases z : ((xs (a + 3).toNat).toInt) = 0
      · obtain ⟨r, h1, h2, A', e1, e2, R2⟩ := st_reaches R hn ((xs (a + 1).toNat).toInt) ((xs (a + 2).toNat).toInt) 0 ((xs (a + 4).toNat).toInt) (Or.inl rfl)
        rw [if_pos z, e1, qbd_some, if_pos z, e2, qbd_some]
        first | rw [if_pos rfl] | rw [if_pos (qcmp_z.mpr rfl)]
        exact nx A' h2 R2
      · obtain ⟨r, h1, h2, A', e1, e2, R2⟩ := st_reaches R hn ((xs (a + 1).toNat).toInt) ((xs (a + 2).toNat).toInt) 1 ((xs (a + 4).toNat).toInt) (Or.inr rfl)
        rw [if_neg z, e1, qbd_some, if_neg z, e2, qbd_some]
        first | rw [if_pos rfl] | rw [if_pos (qcmp_z.mpr rfl)]
        exact nx A' h2 R2
    rw [if_neg o20]
    by_cases o21 : op = 21
    · rw [if_pos o21]
      obtain ⟨r, h1, h2, A', e1, e2, R2⟩ := st_best R hn ((xs (a + 1).toNat).toInt) ((xs (a + 2).toNat).toInt) ((xs (a + 3).toNat).toInt)
      rw [e1, qbd_some, e2, qbd_some]
      first | rw [if_pos rfl] | rw [if_pos (qcmp_z.mpr rfl)]
      exact nx A' h2 R2
    rw [if_neg o21]
    by_cases o22 : op = 22
    · rw [if_pos o22]
      obtain ⟨r, h1, h2, A', e1, e2, R2⟩ := st_reachers R hn ((xs (a + 1).toNat).toInt)
      rw [e1, qbd_some, e2, qbd_some]
      first | rw [if_pos rfl] | rw [if_pos (qcmp_z.mpr rfl)]
      exact nx A' h2 R2
    rw [if_neg o22]
    by_cases o23 : op = 23
    · rw [if_pos o23]
      obtain ⟨r, h1, h2, A', e1, e2, R2⟩ := st_relay R hn ((xs (a + 1).toNat).toInt) ((xs (a + 2).toNat).toInt) ((xs (a + 3).toNat).toInt)
      rw [e1, qbd_some, e2, qbd_some]
      first | rw [if_pos rfl] | rw [if_pos (qcmp_z.mpr rfl)]
      exact nx A' h2 R2
    rw [if_neg o23]
    by_cases o24 : op = 24
    · rw [if_pos o24]
      obtain ⟨r, h1, h2, A', e1, e2, R2⟩ := st_keepers R hn ((xs (a + 1).toNat).toInt)
      rw [e1, qbd_some, e2, qbd_some]
      first | rw [if_pos rfl] | rw [if_pos (qcmp_z.mpr rfl)]
      exact nx A' h2 R2
    rw [if_neg o24]
    by_cases o25 : op = 25
    · rw [if_pos o25]
      obtain ⟨r, h1, h2, A', e1, e2, R2⟩ := st_without R hn ((xs (a + 1).toNat).toInt) ((xs (a + 2).toNat).toInt) ((xs (a + 3).toNat).toInt)
      rw [e1, qbd_some, e2, qbd_some]
      first | rw [if_pos rfl] | rw [if_pos (qcmp_z.mpr rfl)]
      exact nx A' h2 R2
    rw [if_neg o25]
    by_cases o26 : op = 26
    · rw [if_pos o26]
      obtain ⟨r, h1, h2, A', e1, e2, R2⟩ := st_catches R hn ((xs (a + 1).toNat).toInt) ((xs (a + 2).toNat).toInt)
      rw [e1, qbd_some, e2, qbd_some]
      first | rw [if_pos rfl] | rw [if_pos (qcmp_z.mpr rfl)]
      exact nx A' h2 R2
    rw [if_neg o26]
    by_cases o27 : op = 27
    · rw [if_pos o27]
      obtain ⟨r, h1, h2, A', e1, e2, R2⟩ := st_net R hn ((xs (a + 1).toNat).toInt) ((xs (a + 2).toNat).toInt)
      rw [e1, qbd_some, e2, qbd_some]
      first | rw [if_pos rfl] | rw [if_pos (qcmp_z.mpr rfl)]
      exact nx A' h2 R2
    rw [if_neg o27]
    by_cases o28 : op = 28
    · rw [if_pos o28]
      obtain ⟨r, h1, h2, A', e1, e2, R2⟩ := st_calm R hn ((xs (a + 1).toNat).toInt)
      rw [e1, qbd_some, e2, qbd_some]
      first | rw [if_pos rfl] | rw [if_pos (qcmp_z.mpr rfl)]
      exact nx A' h2 R2
    rw [if_neg o28]
    by_cases o29 : op = 29
    · rw [if_pos o29]
      by_cases z : ((xs (a + 1).toNat).toInt) = 0
      · obtain ⟨r, h1, h2, A', e1, e2, R2⟩ := st_deadly R hn 0 (Or.inl rfl)
        rw [if_pos z, e1, qbd_some, if_pos z, e2, qbd_some]
        first | rw [if_pos rfl] | rw [if_pos (qcmp_z.mpr rfl)]
        exact nx A' h2 R2
      · obtain ⟨r, h1, h2, A', e1, e2, R2⟩ := st_deadly R hn 1 (Or.inr rfl)
        rw [if_neg z, e1, qbd_some, if_neg z, e2, qbd_some]
        first | rw [if_pos rfl] | rw [if_pos (qcmp_z.mpr rfl)]
        exact nx A' h2 R2
    rw [if_neg o29]
    by_cases o30 : op = 30
    · rw [if_pos o30]
      by_cases z : ((xs (a + 2).toNat).toInt) = 0
      · obtain ⟨r, h1, h2, A', e1, e2, R2⟩ := st_eddy R hn ((xs (a + 1).toNat).toInt) 0 (Or.inl rfl)
        rw [if_pos z, e1, qbd_some, if_pos z, e2, qbd_some]
        first | rw [if_pos rfl] | rw [if_pos (qcmp_z.mpr rfl)]
        exact nx A' h2 R2
      · obtain ⟨r, h1, h2, A', e1, e2, R2⟩ := st_eddy R hn ((xs (a + 1).toNat).toInt) 1 (Or.inr rfl)
        rw [if_neg z, e1, qbd_some, if_neg z, e2, qbd_some]
        first | rw [if_pos rfl] | rw [if_pos (qcmp_z.mpr rfl)]
        exact nx A' h2 R2
    rw [if_neg o30]
    by_cases o31 : op = 31
    · rw [if_pos o31]
      obtain ⟨r, h1, h2, A', e1, e2, R2⟩ := st_seen R hn ((xs (a + 1).toNat).toInt)
      rw [e1, qbd_some, e2, qbd_some]
      first | rw [if_pos rfl] | rw [if_pos (qcmp_z.mpr rfl)]
      exact nx A' h2 R2
    rw [if_neg o31]
    by_cases o32 : op = 32
    · rw [if_pos o32]
      obtain ⟨r, h1, h2, A', e1, e2, R2⟩ := st_thrower R hn ((xs (a + 1).toNat).toInt) ((xs (a + 2).toNat).toInt) ((xs (a + 3).toNat).toInt)
      rw [e1, qbd_some, e2, qbd_some]
      first | rw [if_pos rfl] | rw [if_pos (qcmp_z.mpr rfl)]
      exact nx A' h2 R2
    rw [if_neg o32]
    by_cases o33 : op = 33
    · rw [if_pos o33]
      obtain ⟨r, h1, h2, A', e1, e2, R2⟩ := st_suspects R hn ((xs (a + 1).toNat).toInt)
      rw [e1, qbd_some, e2, qbd_some]
      first | rw [if_pos rfl] | rw [if_pos (qcmp_z.mpr rfl)]
      exact nx A' h2 R2
    rw [if_neg o33]
    by_cases o34 : op = 34
    · rw [if_pos o34]
      obtain ⟨r, h1, h2, A', e1, e2, R2⟩ := st_numbers R hn ((xs (a + 1).toNat).toInt) ((xs (a + 2).toNat).toInt) ((xs (a + 3).toNat).toInt)
      rw [e1, qbd_some, e2, qbd_some]
      first | rw [if_pos rfl] | rw [if_pos (qcmp_z.mpr rfl)]
      exact nx A' h2 R2
    rw [if_neg o34]
    by_cases o35 : op = 35
    · rw [if_pos o35]
      obtain ⟨r, h1, h2, A', e1, e2, R2⟩ := st_write R hn ((xs (a + 1).toNat).toInt) ((xs (a + 2).toNat).toInt) (qorl (qshll ((xs (a + 3).toNat).toInt) 32) (qandl ((xs (a + 4).toNat).toInt) 4294967295))
      rw [e1, qbd_some, e2, qbd_some]
      first | rw [if_pos rfl] | rw [if_pos (qcmp_z.mpr rfl)]
      exact nx A' h2 R2
    rw [if_neg o35]
    by_cases o36 : op = 36
    · rw [if_pos o36]
      obtain ⟨r, h1, h2, A', e1, e2, R2⟩ := st_lists R hn ((xs (a + 1).toNat).toInt) ((xs (a + 2).toNat).toInt)
      rw [e1, qbd_some, e2, qbd_some]
      first | rw [if_pos rfl] | rw [if_pos (qcmp_z.mpr rfl)]
      exact nx A' h2 R2
    rw [if_neg o36]
    by_cases o37 : op = 37
    · rw [if_pos o37]
      obtain ⟨r, h1, h2, A', e1, e2, R2⟩ := st_image R hn ((xs (a + 1).toNat).toInt)
      rw [e1, qbd_some, e2, qbd_some]
      first | rw [if_pos rfl] | rw [if_pos (qcmp_z.mpr rfl)]
      exact nx A' h2 R2
    rw [if_neg o37]
    by_cases o38 : op = 38
    · rw [if_pos o38]
      obtain ⟨r, h1, h2, A', e1, e2, R2⟩ := st_restore R hn ((xs (a + 1).toNat).toInt)
      rw [e1, qbd_some, e2, qbd_some]
      first | rw [if_pos rfl] | rw [if_pos (qcmp_z.mpr rfl)]
      exact nx A' h2 R2
    rw [if_neg o38]
    by_cases o39 : op = 39
    · rw [if_pos o39]
      obtain ⟨r, h1, h2, A', e1, e2, R2⟩ := st_count R hn ((xs (a + 1).toNat).toInt)
      rw [e1, qbd_some, e2, qbd_some]
      first | rw [if_pos rfl] | rw [if_pos (qcmp_z.mpr rfl)]
      exact nx A' h2 R2
    rw [if_neg o39]
    exact nx A h (R.grow (by omega))
end lawl
