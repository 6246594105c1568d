theorem ci_Fl {μ : Mem} (C : CS [(1, 0, 1), (320, 0, 1), (11, 0, 1)] [(11, 0, 0, 0)] false μ) : Ok (m_Fl_init μ) [(124, 0, 1), (123, 0, 1), (122, 0, 1), (121, 0, 1), (120, 0, 1), (1, 0, 1), (320, 0, 1), (11, 0, 1)] [(1, 0, 4, 0), (1, 0, 3, 0), (1, 0, 2, 0), (1, 0, 1, 0), (1, 0, 0, 0), (11, 0, 0, 0)] false := by
  unfold m_Fl_init
  refine st_gfr C (by decide +kernel) ?_
  refine st_nw C (by decide +kernel) (by decide) (fun _ C => ?_)
  refine st_sR C (fun _ C => ?_)
  refine st_gfr C (by decide +kernel) ?_
  refine st_nw C (by decide +kernel) (by decide) (fun _ C => ?_)
  refine st_sR C (fun _ C => ?_)
  refine st_gfr C (by decide +kernel) ?_
  refine st_nw C (by decide +kernel) (by decide) (fun _ C => ?_)
  refine st_sR C (fun _ C => ?_)
  refine st_gfr C (by decide +kernel) ?_
  refine st_nw C (by decide +kernel) (by decide) (fun _ C => ?_)
  refine st_sR C (fun _ C => ?_)
  refine st_gfr C (by decide +kernel) ?_
  refine st_nw C (by decide +kernel) (by decide) (fun _ C => ?_)
  refine st_sR C (fun _ C => ?_)
  exact st_end C
theorem ci_Po_0 {μ : Mem} (C : CS [(7, 0, 1), (124, 0, 1), (123, 0, 1), (122, 0, 1), (121, 0, 1), (120, 0, 1), (1, 0, 1), (320, 0, 1), (11, 0, 1)] [(11, 0, 2, 0), (1, 0, 4, 0), (1, 0, 3, 0), (1, 0, 2, 0), (1, 0, 1, 0), (1, 0, 0, 0), (11, 0, 0, 0)] false μ) : Ok (m_Po_init 0 μ) [(243, 0, 1), (242, 0, 1), (241, 0, 1), (240, 0, 1), (7, 0, 1), (124, 0, 1), (123, 0, 1), (122, 0, 1), (121, 0, 1), (120, 0, 1), (1, 0, 1), (320, 0, 1), (11, 0, 1)] [(7, 0, 3, 0), (7, 0, 2, 0), (7, 0, 1, 0), (7, 0, 0, 0), (11, 0, 2, 0), (1, 0, 4, 0), (1, 0, 3, 0), (1, 0, 2, 0), (1, 0, 1, 0), (1, 0, 0, 0), (11, 0, 0, 0)] false := by
  unfold m_Po_init
  refine st_gfr C (by decide +kernel) ?_
  refine st_nw C (by decide +kernel) (by decide) (fun _ C => ?_)
  refine st_sR C (fun _ C => ?_)
  refine st_gfr C (by decide +kernel) ?_
  refine st_nw C (by decide +kernel) (by decide) (fun _ C => ?_)
  refine st_sR C (fun _ C => ?_)
  refine st_gfr C (by decide +kernel) ?_
  refine st_nw C (by decide +kernel) (by decide) (fun _ C => ?_)
  refine st_sR C (fun _ C => ?_)
  refine st_gfr C (by decide +kernel) ?_
  refine st_nw C (by decide +kernel) (by decide) (fun _ C => ?_)
  refine st_sR C (fun _ C => ?_)
  exact st_end C
theorem ci_Po_1 {μ : Mem} (C : CS [(7, 1, 1), (243, 0, 1), (242, 0, 1), (241, 0, 1), (240, 0, 1), (7, 0, 1), (124, 0, 1), (123, 0, 1), (122, 0, 1), (121, 0, 1), (120, 0, 1), (1, 0, 1), (320, 0, 1), (11, 0, 1)] [(11, 0, 3, 0), (7, 0, 3, 0), (7, 0, 2, 0), (7, 0, 1, 0), (7, 0, 0, 0), (11, 0, 2, 0), (1, 0, 4, 0), (1, 0, 3, 0), (1, 0, 2, 0), (1, 0, 1, 0), (1, 0, 0, 0), (11, 0, 0, 0)] false μ) : Ok (m_Po_init 1 μ) [(243, 1, 1), (242, 1, 1), (241, 1, 1), (240, 1, 1), (7, 1, 1), (243, 0, 1), (242, 0, 1), (241, 0, 1), (240, 0, 1), (7, 0, 1), (124, 0, 1), (123, 0, 1), (122, 0, 1), (121, 0, 1), (120, 0, 1), (1, 0, 1), (320, 0, 1), (11, 0, 1)] [(7, 1, 3, 1), (7, 1, 2, 1), (7, 1, 1, 1), (7, 1, 0, 1), (11, 0, 3, 0), (7, 0, 3, 0), (7, 0, 2, 0), (7, 0, 1, 0), (7, 0, 0, 0), (11, 0, 2, 0), (1, 0, 4, 0), (1, 0, 3, 0), (1, 0, 2, 0), (1, 0, 1, 0), (1, 0, 0, 0), (11, 0, 0, 0)] false := by
  unfold m_Po_init
  refine st_gfr C (by decide +kernel) ?_
  refine st_nw C (by decide +kernel) (by decide) (fun _ C => ?_)
  refine st_sR C (fun _ C => ?_)
  refine st_gfr C (by decide +kernel) ?_
  refine st_nw C (by decide +kernel) (by decide) (fun _ C => ?_)
  refine st_sR C (fun _ C => ?_)
  refine st_gfr C (by decide +kernel) ?_
  refine st_nw C (by decide +kernel) (by decide) (fun _ C => ?_)
  refine st_sR C (fun _ C => ?_)
  refine st_gfr C (by decide +kernel) ?_
  refine st_nw C (by decide +kernel) (by decide) (fun _ C => ?_)
  refine st_sR C (fun _ C => ?_)
  exact st_end C
theorem ci_Im {μ : Mem} (C : CS [(2, 0, 1), (243, 1, 1), (242, 1, 1), (241, 1, 1), (240, 1, 1), (7, 1, 1), (243, 0, 1), (242, 0, 1), (241, 0, 1), (240, 0, 1), (7, 0, 1), (124, 0, 1), (123, 0, 1), (122, 0, 1), (121, 0, 1), (120, 0, 1), (1, 0, 1), (320, 0, 1), (11, 0, 1)] [(11, 0, 4, 1), (7, 1, 3, 1), (7, 1, 2, 1), (7, 1, 1, 1), (7, 1, 0, 1), (11, 0, 3, 0), (7, 0, 3, 0), (7, 0, 2, 0), (7, 0, 1, 0), (7, 0, 0, 0), (11, 0, 2, 0), (1, 0, 4, 0), (1, 0, 3, 0), (1, 0, 2, 0), (1, 0, 1, 0), (1, 0, 0, 0), (11, 0, 0, 0)] false μ) : Ok (m_Im_init μ) [(141, 0, 1), (140, 0, 1), (2, 0, 1), (243, 1, 1), (242, 1, 1), (241, 1, 1), (240, 1, 1), (7, 1, 1), (243, 0, 1), (242, 0, 1), (241, 0, 1), (240, 0, 1), (7, 0, 1), (124, 0, 1), (123, 0, 1), (122, 0, 1), (121, 0, 1), (120, 0, 1), (1, 0, 1), (320, 0, 1), (11, 0, 1)] [(2, 0, 1, 0), (2, 0, 0, 0), (11, 0, 4, 1), (7, 1, 3, 1), (7, 1, 2, 1), (7, 1, 1, 1), (7, 1, 0, 1), (11, 0, 3, 0), (7, 0, 3, 0), (7, 0, 2, 0), (7, 0, 1, 0), (7, 0, 0, 0), (11, 0, 2, 0), (1, 0, 4, 0), (1, 0, 3, 0), (1, 0, 2, 0), (1, 0, 1, 0), (1, 0, 0, 0), (11, 0, 0, 0)] false := by
  unfold m_Im_init
  refine st_gfr C (by decide +kernel) ?_
  refine st_nw C (by decide +kernel) (by decide) (fun _ C => ?_)
  refine st_sR C (fun _ C => ?_)
  refine st_gfr C (by decide +kernel) ?_
  refine st_nw C (by decide +kernel) (by decide) (fun _ C => ?_)
  refine st_sR C (fun _ C => ?_)
  exact st_end C
theorem ci_Ru {μ : Mem} (C : CS [(9, 0, 1), (141, 0, 1), (140, 0, 1), (2, 0, 1), (243, 1, 1), (242, 1, 1), (241, 1, 1), (240, 1, 1), (7, 1, 1), (243, 0, 1), (242, 0, 1), (241, 0, 1), (240, 0, 1), (7, 0, 1), (124, 0, 1), (123, 0, 1), (122, 0, 1), (121, 0, 1), (120, 0, 1), (1, 0, 1), (320, 0, 1), (11, 0, 1)] [(11, 0, 5, 0), (2, 0, 1, 0), (2, 0, 0, 0), (11, 0, 4, 1), (7, 1, 3, 1), (7, 1, 2, 1), (7, 1, 1, 1), (7, 1, 0, 1), (11, 0, 3, 0), (7, 0, 3, 0), (7, 0, 2, 0), (7, 0, 1, 0), (7, 0, 0, 0), (11, 0, 2, 0), (1, 0, 4, 0), (1, 0, 3, 0), (1, 0, 2, 0), (1, 0, 1, 0), (1, 0, 0, 0), (11, 0, 0, 0)] false μ) : Ok (m_Ru_init μ) [(282, 0, 1), (281, 0, 1), (280, 0, 1), (9, 0, 1), (141, 0, 1), (140, 0, 1), (2, 0, 1), (243, 1, 1), (242, 1, 1), (241, 1, 1), (240, 1, 1), (7, 1, 1), (243, 0, 1), (242, 0, 1), (241, 0, 1), (240, 0, 1), (7, 0, 1), (124, 0, 1), (123, 0, 1), (122, 0, 1), (121, 0, 1), (120, 0, 1), (1, 0, 1), (320, 0, 1), (11, 0, 1)] [(9, 0, 2, 0), (9, 0, 1, 0), (9, 0, 0, 0), (11, 0, 5, 0), (2, 0, 1, 0), (2, 0, 0, 0), (11, 0, 4, 1), (7, 1, 3, 1), (7, 1, 2, 1), (7, 1, 1, 1), (7, 1, 0, 1), (11, 0, 3, 0), (7, 0, 3, 0), (7, 0, 2, 0), (7, 0, 1, 0), (7, 0, 0, 0), (11, 0, 2, 0), (1, 0, 4, 0), (1, 0, 3, 0), (1, 0, 2, 0), (1, 0, 1, 0), (1, 0, 0, 0), (11, 0, 0, 0)] false := by
  unfold m_Ru_init
  refine st_gfr C (by decide +kernel) ?_
  refine st_nw C (by decide +kernel) (by decide) (fun _ C => ?_)
  refine st_sR C (fun _ C => ?_)
  refine st_gfr C (by decide +kernel) ?_
  refine st_nw C (by decide +kernel) (by decide) (fun _ C => ?_)
  refine st_sR C (fun _ C => ?_)
  refine st_gfr C (by decide +kernel) ?_
  refine st_nw C (by decide +kernel) (by decide) (fun _ C => ?_)
  refine st_sR C (fun _ C => ?_)
  exact st_end C
theorem ci_Fit_0 {μ : Mem} (C : CS [(0, 0, 1), (282, 0, 1), (281, 0, 1), (280, 0, 1), (9, 0, 1), (141, 0, 1), (140, 0, 1), (2, 0, 1), (243, 1, 1), (242, 1, 1), (241, 1, 1), (240, 1, 1), (7, 1, 1), (243, 0, 1), (242, 0, 1), (241, 0, 1), (240, 0, 1), (7, 0, 1), (124, 0, 1), (123, 0, 1), (122, 0, 1), (121, 0, 1), (120, 0, 1), (1, 0, 1), (320, 0, 1), (11, 0, 1)] [(11, 0, 6, 0), (9, 0, 2, 0), (9, 0, 1, 0), (9, 0, 0, 0), (11, 0, 5, 0), (2, 0, 1, 0), (2, 0, 0, 0), (11, 0, 4, 1), (7, 1, 3, 1), (7, 1, 2, 1), (7, 1, 1, 1), (7, 1, 0, 1), (11, 0, 3, 0), (7, 0, 3, 0), (7, 0, 2, 0), (7, 0, 1, 0), (7, 0, 0, 0), (11, 0, 2, 0), (1, 0, 4, 0), (1, 0, 3, 0), (1, 0, 2, 0), (1, 0, 1, 0), (1, 0, 0, 0), (11, 0, 0, 0)] false μ) : Ok (m_Fit_init 0 μ) [(103, 0, 1), (102, 0, 1), (502, 0, 2), (101, 0, 1), (501, 0, 2), (100, 0, 1), (500, 0, 2), (0, 0, 1), (282, 0, 1), (281, 0, 1), (280, 0, 1), (9, 0, 1), (141, 0, 1), (140, 0, 1), (2, 0, 1), (243, 1, 1), (242, 1, 1), (241, 1, 1), (240, 1, 1), (7, 1, 1), (243, 0, 1), (242, 0, 1), (241, 0, 1), (240, 0, 1), (7, 0, 1), (124, 0, 1), (123, 0, 1), (122, 0, 1), (121, 0, 1), (120, 0, 1), (1, 0, 1), (320, 0, 1), (11, 0, 1)] [(0, 0, 3, 0), (0, 0, 2, 0), (0, 0, 1, 0), (0, 0, 0, 0), (11, 0, 6, 0), (9, 0, 2, 0), (9, 0, 1, 0), (9, 0, 0, 0), (11, 0, 5, 0), (2, 0, 1, 0), (2, 0, 0, 0), (11, 0, 4, 1), (7, 1, 3, 1), (7, 1, 2, 1), (7, 1, 1, 1), (7, 1, 0, 1), (11, 0, 3, 0), (7, 0, 3, 0), (7, 0, 2, 0), (7, 0, 1, 0), (7, 0, 0, 0), (11, 0, 2, 0), (1, 0, 4, 0), (1, 0, 3, 0), (1, 0, 2, 0), (1, 0, 1, 0), (1, 0, 0, 0), (11, 0, 0, 0)] false := by
  unfold m_Fit_init
  refine st_gfm C (by decide +kernel) (by decide +kernel) ?_
  refine st_nwm C (by decide +kernel) (by decide +kernel) (by decide) (fun _ C => ?_)
  refine st_sR C (fun _ C => ?_)
  refine st_gfm C (by decide +kernel) (by decide +kernel) ?_
  refine st_nwm C (by decide +kernel) (by decide +kernel) (by decide) (fun _ C => ?_)
  refine st_sR C (fun _ C => ?_)
  refine st_gfm C (by decide +kernel) (by decide +kernel) ?_
  refine st_nwm C (by decide +kernel) (by decide +kernel) (by decide) (fun _ C => ?_)
  refine st_sR C (fun _ C => ?_)
  refine st_gfr C (by decide +kernel) ?_
  refine st_nw C (by decide +kernel) (by decide) (fun _ C => ?_)
  refine st_sR C (fun _ C => ?_)
  exact st_end C
theorem ci_Fit_1 {μ : Mem} (C : CS [(0, 1, 1), (103, 0, 1), (102, 0, 1), (502, 0, 2), (101, 0, 1), (501, 0, 2), (100, 0, 1), (500, 0, 2), (0, 0, 1), (282, 0, 1), (281, 0, 1), (280, 0, 1), (9, 0, 1), (141, 0, 1), (140, 0, 1), (2, 0, 1), (243, 1, 1), (242, 1, 1), (241, 1, 1), (240, 1, 1), (7, 1, 1), (243, 0, 1), (242, 0, 1), (241, 0, 1), (240, 0, 1), (7, 0, 1), (124, 0, 1), (123, 0, 1), (122, 0, 1), (121, 0, 1), (120, 0, 1), (1, 0, 1), (320, 0, 1), (11, 0, 1)] [(11, 0, 7, 0), (0, 0, 3, 0), (0, 0, 2, 0), (0, 0, 1, 0), (0, 0, 0, 0), (11, 0, 6, 0), (9, 0, 2, 0), (9, 0, 1, 0), (9, 0, 0, 0), (11, 0, 5, 0), (2, 0, 1, 0), (2, 0, 0, 0), (11, 0, 4, 1), (7, 1, 3, 1), (7, 1, 2, 1), (7, 1, 1, 1), (7, 1, 0, 1), (11, 0, 3, 0), (7, 0, 3, 0), (7, 0, 2, 0), (7, 0, 1, 0), (7, 0, 0, 0), (11, 0, 2, 0), (1, 0, 4, 0), (1, 0, 3, 0), (1, 0, 2, 0), (1, 0, 1, 0), (1, 0, 0, 0), (11, 0, 0, 0)] false μ) : Ok (m_Fit_init 1 μ) [(103, 1, 1), (102, 1, 1), (502, 2, 2), (101, 1, 1), (501, 2, 2), (100, 1, 1), (500, 2, 2), (0, 1, 1), (103, 0, 1), (102, 0, 1), (502, 0, 2), (101, 0, 1), (501, 0, 2), (100, 0, 1), (500, 0, 2), (0, 0, 1), (282, 0, 1), (281, 0, 1), (280, 0, 1), (9, 0, 1), (141, 0, 1), (140, 0, 1), (2, 0, 1), (243, 1, 1), (242, 1, 1), (241, 1, 1), (240, 1, 1), (7, 1, 1), (243, 0, 1), (242, 0, 1), (241, 0, 1), (240, 0, 1), (7, 0, 1), (124, 0, 1), (123, 0, 1), (122, 0, 1), (121, 0, 1), (120, 0, 1), (1, 0, 1), (320, 0, 1), (11, 0, 1)] [(0, 1, 3, 1), (0, 1, 2, 1), (0, 1, 1, 1), (0, 1, 0, 1), (11, 0, 7, 0), (0, 0, 3, 0), (0, 0, 2, 0), (0, 0, 1, 0), (0, 0, 0, 0), (11, 0, 6, 0), (9, 0, 2, 0), (9, 0, 1, 0), (9, 0, 0, 0), (11, 0, 5, 0), (2, 0, 1, 0), (2, 0, 0, 0), (11, 0, 4, 1), (7, 1, 3, 1), (7, 1, 2, 1), (7, 1, 1, 1), (7, 1, 0, 1), (11, 0, 3, 0), (7, 0, 3, 0), (7, 0, 2, 0), (7, 0, 1, 0), (7, 0, 0, 0), (11, 0, 2, 0), (1, 0, 4, 0), (1, 0, 3, 0), (1, 0, 2, 0), (1, 0, 1, 0), (1, 0, 0, 0), (11, 0, 0, 0)] false := by
  unfold m_Fit_init
  refine st_gfm C (by decide +kernel) (by decide +kernel) ?_
  refine st_nwm C (by decide +kernel) (by decide +kernel) (by decide) (fun _ C => ?_)
  refine st_sR C (fun _ C => ?_)
  refine st_gfm C (by decide +kernel) (by decide +kernel) ?_
  refine st_nwm C (by decide +kernel) (by decide +kernel) (by decide) (fun _ C => ?_)
  refine st_sR C (fun _ C => ?_)
  refine st_gfm C (by decide +kernel) (by decide +kernel) ?_
  refine st_nwm C (by decide +kernel) (by decide +kernel) (by decide) (fun _ C => ?_)
  refine st_sR C (fun _ C => ?_)
  refine st_gfr C (by decide +kernel) ?_
  refine st_nw C (by decide +kernel) (by decide) (fun _ C => ?_)
  refine st_sR C (fun _ C => ?_)
  exact st_end C
theorem ci_Ke {μ : Mem} (C : CS [(3, 0, 1), (329, 0, 1), (103, 1, 1), (102, 1, 1), (502, 2, 2), (101, 1, 1), (501, 2, 2), (100, 1, 1), (500, 2, 2), (0, 1, 1), (103, 0, 1), (102, 0, 1), (502, 0, 2), (101, 0, 1), (501, 0, 2), (100, 0, 1), (500, 0, 2), (0, 0, 1), (282, 0, 1), (281, 0, 1), (280, 0, 1), (9, 0, 1), (141, 0, 1), (140, 0, 1), (2, 0, 1), (243, 1, 1), (242, 1, 1), (241, 1, 1), (240, 1, 1), (7, 1, 1), (243, 0, 1), (242, 0, 1), (241, 0, 1), (240, 0, 1), (7, 0, 1), (124, 0, 1), (123, 0, 1), (122, 0, 1), (121, 0, 1), (120, 0, 1), (1, 0, 1), (320, 0, 1), (11, 0, 1)] [(11, 0, 9, 0), (11, 0, 8, 1), (0, 1, 3, 1), (0, 1, 2, 1), (0, 1, 1, 1), (0, 1, 0, 1), (11, 0, 7, 0), (0, 0, 3, 0), (0, 0, 2, 0), (0, 0, 1, 0), (0, 0, 0, 0), (11, 0, 6, 0), (9, 0, 2, 0), (9, 0, 1, 0), (9, 0, 0, 0), (11, 0, 5, 0), (2, 0, 1, 0), (2, 0, 0, 0), (11, 0, 4, 1), (7, 1, 3, 1), (7, 1, 2, 1), (7, 1, 1, 1), (7, 1, 0, 1), (11, 0, 3, 0), (7, 0, 3, 0), (7, 0, 2, 0), (7, 0, 1, 0), (7, 0, 0, 0), (11, 0, 2, 0), (1, 0, 4, 0), (1, 0, 3, 0), (1, 0, 2, 0), (1, 0, 1, 0), (1, 0, 0, 0), (11, 0, 0, 0)] false μ) : Ok (m_Ke_init μ) [(161, 0, 1), (561, 0, 32), (160, 0, 1), (560, 0, 16), (3, 0, 1), (329, 0, 1), (103, 1, 1), (102, 1, 1), (502, 2, 2), (101, 1, 1), (501, 2, 2), (100, 1, 1), (500, 2, 2), (0, 1, 1), (103, 0, 1), (102, 0, 1), (502, 0, 2), (101, 0, 1), (501, 0, 2), (100, 0, 1), (500, 0, 2), (0, 0, 1), (282, 0, 1), (281, 0, 1), (280, 0, 1), (9, 0, 1), (141, 0, 1), (140, 0, 1), (2, 0, 1), (243, 1, 1), (242, 1, 1), (241, 1, 1), (240, 1, 1), (7, 1, 1), (243, 0, 1), (242, 0, 1), (241, 0, 1), (240, 0, 1), (7, 0, 1), (124, 0, 1), (123, 0, 1), (122, 0, 1), (121, 0, 1), (120, 0, 1), (1, 0, 1), (320, 0, 1), (11, 0, 1)] [(3, 0, 1, 0), (3, 0, 0, 0), (11, 0, 9, 0), (11, 0, 8, 1), (0, 1, 3, 1), (0, 1, 2, 1), (0, 1, 1, 1), (0, 1, 0, 1), (11, 0, 7, 0), (0, 0, 3, 0), (0, 0, 2, 0), (0, 0, 1, 0), (0, 0, 0, 0), (11, 0, 6, 0), (9, 0, 2, 0), (9, 0, 1, 0), (9, 0, 0, 0), (11, 0, 5, 0), (2, 0, 1, 0), (2, 0, 0, 0), (11, 0, 4, 1), (7, 1, 3, 1), (7, 1, 2, 1), (7, 1, 1, 1), (7, 1, 0, 1), (11, 0, 3, 0), (7, 0, 3, 0), (7, 0, 2, 0), (7, 0, 1, 0), (7, 0, 0, 0), (11, 0, 2, 0), (1, 0, 4, 0), (1, 0, 3, 0), (1, 0, 2, 0), (1, 0, 1, 0), (1, 0, 0, 0), (11, 0, 0, 0)] true := by
  unfold m_Ke_init
  refine st_gfm C (by decide +kernel) (by decide +kernel) ?_
  refine st_nwm C (by decide +kernel) (by decide +kernel) (by decide) (fun _ C => ?_)
  refine st_sR C (fun _ C => ?_)
  refine st_gfm C (by decide +kernel) (by decide +kernel) ?_
  refine st_nwm C (by decide +kernel) (by decide +kernel) (by decide) (fun _ C => ?_)
  refine st_sR C (fun _ C => ?_)
  exact ke_lp (by decide +kernel) FU 0 _ (by omega) (by unfold FU; omega) C (fun a d ha => by omega)
theorem ci_Li {μ : Mem} (C : CS [(5, 0, 1), (161, 0, 1), (561, 0, 32), (160, 0, 1), (560, 0, 16), (3, 0, 1), (329, 0, 1), (103, 1, 1), (102, 1, 1), (502, 2, 2), (101, 1, 1), (501, 2, 2), (100, 1, 1), (500, 2, 2), (0, 1, 1), (103, 0, 1), (102, 0, 1), (502, 0, 2), (101, 0, 1), (501, 0, 2), (100, 0, 1), (500, 0, 2), (0, 0, 1), (282, 0, 1), (281, 0, 1), (280, 0, 1), (9, 0, 1), (141, 0, 1), (140, 0, 1), (2, 0, 1), (243, 1, 1), (242, 1, 1), (241, 1, 1), (240, 1, 1), (7, 1, 1), (243, 0, 1), (242, 0, 1), (241, 0, 1), (240, 0, 1), (7, 0, 1), (124, 0, 1), (123, 0, 1), (122, 0, 1), (121, 0, 1), (120, 0, 1), (1, 0, 1), (320, 0, 1), (11, 0, 1)] [(11, 0, 10, 0), (3, 0, 1, 0), (3, 0, 0, 0), (11, 0, 9, 0), (11, 0, 8, 1), (0, 1, 3, 1), (0, 1, 2, 1), (0, 1, 1, 1), (0, 1, 0, 1), (11, 0, 7, 0), (0, 0, 3, 0), (0, 0, 2, 0), (0, 0, 1, 0), (0, 0, 0, 0), (11, 0, 6, 0), (9, 0, 2, 0), (9, 0, 1, 0), (9, 0, 0, 0), (11, 0, 5, 0), (2, 0, 1, 0), (2, 0, 0, 0), (11, 0, 4, 1), (7, 1, 3, 1), (7, 1, 2, 1), (7, 1, 1, 1), (7, 1, 0, 1), (11, 0, 3, 0), (7, 0, 3, 0), (7, 0, 2, 0), (7, 0, 1, 0), (7, 0, 0, 0), (11, 0, 2, 0), (1, 0, 4, 0), (1, 0, 3, 0), (1, 0, 2, 0), (1, 0, 1, 0), (1, 0, 0, 0), (11, 0, 0, 0)] true μ) : Ok (m_Li_init μ) [(207, 0, 1), (206, 0, 1), (205, 0, 1), (203, 0, 1), (201, 0, 1), (200, 0, 1), (600, 0, 3), (5, 0, 1), (161, 0, 1), (561, 0, 32), (160, 0, 1), (560, 0, 16), (3, 0, 1), (329, 0, 1), (103, 1, 1), (102, 1, 1), (502, 2, 2), (101, 1, 1), (501, 2, 2), (100, 1, 1), (500, 2, 2), (0, 1, 1), (103, 0, 1), (102, 0, 1), (502, 0, 2), (101, 0, 1), (501, 0, 2), (100, 0, 1), (500, 0, 2), (0, 0, 1), (282, 0, 1), (281, 0, 1), (280, 0, 1), (9, 0, 1), (141, 0, 1), (140, 0, 1), (2, 0, 1), (243, 1, 1), (242, 1, 1), (241, 1, 1), (240, 1, 1), (7, 1, 1), (243, 0, 1), (242, 0, 1), (241, 0, 1), (240, 0, 1), (7, 0, 1), (124, 0, 1), (123, 0, 1), (122, 0, 1), (121, 0, 1), (120, 0, 1), (1, 0, 1), (320, 0, 1), (11, 0, 1)] [(5, 0, 7, 0), (5, 0, 6, 0), (5, 0, 5, 0), (5, 0, 3, 0), (5, 0, 1, 0), (5, 0, 0, 0), (11, 0, 10, 0), (3, 0, 1, 0), (3, 0, 0, 0), (11, 0, 9, 0), (11, 0, 8, 1), (0, 1, 3, 1), (0, 1, 2, 1), (0, 1, 1, 1), (0, 1, 0, 1), (11, 0, 7, 0), (0, 0, 3, 0), (0, 0, 2, 0), (0, 0, 1, 0), (0, 0, 0, 0), (11, 0, 6, 0), (9, 0, 2, 0), (9, 0, 1, 0), (9, 0, 0, 0), (11, 0, 5, 0), (2, 0, 1, 0), (2, 0, 0, 0), (11, 0, 4, 1), (7, 1, 3, 1), (7, 1, 2, 1), (7, 1, 1, 1), (7, 1, 0, 1), (11, 0, 3, 0), (7, 0, 3, 0), (7, 0, 2, 0), (7, 0, 1, 0), (7, 0, 0, 0), (11, 0, 2, 0), (1, 0, 4, 0), (1, 0, 3, 0), (1, 0, 2, 0), (1, 0, 1, 0), (1, 0, 0, 0), (11, 0, 0, 0)] true := by
  unfold m_Li_init
  refine st_gfm C (by decide +kernel) (by decide +kernel) ?_
  refine st_nwm C (by decide +kernel) (by decide +kernel) (by decide) (fun _ C => ?_)
  refine st_sR C (fun _ C => ?_)
  refine st_gfr C (by decide +kernel) ?_
  refine st_nw C (by decide +kernel) (by decide) (fun _ C => ?_)
  refine st_sR C (fun _ C => ?_)
  refine st_gfr C (by decide +kernel) ?_
  refine st_nw C (by decide +kernel) (by decide) (fun _ C => ?_)
  refine st_sR C (fun _ C => ?_)
  refine st_gfr C (by decide +kernel) ?_
  refine st_nw C (by decide +kernel) (by decide) (fun _ C => ?_)
  refine st_sR C (fun _ C => ?_)
  refine st_gfr C (by decide +kernel) ?_
  refine st_nw C (by decide +kernel) (by decide) (fun _ C => ?_)
  refine st_sR C (fun _ C => ?_)
  refine st_gfr C (by decide +kernel) ?_
  refine st_nw C (by decide +kernel) (by decide) (fun _ C => ?_)
  refine st_sR C (fun _ C => ?_)
  exact st_end C
theorem ci_Fo {μ : Mem} (C : CS [(11, 0, 1)] [] false μ) : Ok (m_Fo_init μ) [(207, 0, 1), (206, 0, 1), (205, 0, 1), (203, 0, 1), (201, 0, 1), (200, 0, 1), (600, 0, 3), (5, 0, 1), (161, 0, 1), (561, 0, 32), (160, 0, 1), (560, 0, 16), (3, 0, 1), (329, 0, 1), (103, 1, 1), (102, 1, 1), (502, 2, 2), (101, 1, 1), (501, 2, 2), (100, 1, 1), (500, 2, 2), (0, 1, 1), (103, 0, 1), (102, 0, 1), (502, 0, 2), (101, 0, 1), (501, 0, 2), (100, 0, 1), (500, 0, 2), (0, 0, 1), (282, 0, 1), (281, 0, 1), (280, 0, 1), (9, 0, 1), (141, 0, 1), (140, 0, 1), (2, 0, 1), (243, 1, 1), (242, 1, 1), (241, 1, 1), (240, 1, 1), (7, 1, 1), (243, 0, 1), (242, 0, 1), (241, 0, 1), (240, 0, 1), (7, 0, 1), (124, 0, 1), (123, 0, 1), (122, 0, 1), (121, 0, 1), (120, 0, 1), (1, 0, 1), (320, 0, 1), (11, 0, 1)] [(11, 0, 11, 0), (5, 0, 7, 0), (5, 0, 6, 0), (5, 0, 5, 0), (5, 0, 3, 0), (5, 0, 1, 0), (5, 0, 0, 0), (11, 0, 10, 0), (3, 0, 1, 0), (3, 0, 0, 0), (11, 0, 9, 0), (11, 0, 8, 1), (0, 1, 3, 1), (0, 1, 2, 1), (0, 1, 1, 1), (0, 1, 0, 1), (11, 0, 7, 0), (0, 0, 3, 0), (0, 0, 2, 0), (0, 0, 1, 0), (0, 0, 0, 0), (11, 0, 6, 0), (9, 0, 2, 0), (9, 0, 1, 0), (9, 0, 0, 0), (11, 0, 5, 0), (2, 0, 1, 0), (2, 0, 0, 0), (11, 0, 4, 1), (7, 1, 3, 1), (7, 1, 2, 1), (7, 1, 1, 1), (7, 1, 0, 1), (11, 0, 3, 0), (7, 0, 3, 0), (7, 0, 2, 0), (7, 0, 1, 0), (7, 0, 0, 0), (11, 0, 2, 0), (1, 0, 4, 0), (1, 0, 3, 0), (1, 0, 2, 0), (1, 0, 1, 0), (1, 0, 0, 0), (11, 0, 0, 0)] true := by
  unfold m_Fo_init
  refine st_gfr C (by decide +kernel) ?_
  refine st_nw C (by decide +kernel) (by decide) (fun _ C => ?_)
  refine st_sR C (fun _ C => ?_)
  refine st_sI C (by decide) (fun _ C => ?_)
  refine st_gfr C (by decide +kernel) ?_
  refine st_nw C (by decide +kernel) (by decide) (fun _ C => ?_)
  refine st_bd (ci_Fl C) (fun _ C => ?_)
  refine st_sR C (fun _ C => ?_)
  refine st_gfr C (by decide +kernel) ?_
  refine st_nw C (by decide +kernel) (by decide) (fun _ C => ?_)
  refine st_bd (ci_Po_0 C) (fun _ C => ?_)
  refine st_sR C (fun _ C => ?_)
  refine st_gfr C (by decide +kernel) ?_
  refine st_nw C (by decide +kernel) (by decide) (fun _ C => ?_)
  refine st_bd (ci_Po_1 C) (fun _ C => ?_)
  refine st_sR C (fun _ C => ?_)
  refine st_gfr C (by decide +kernel) ?_
  refine st_nw C (by decide +kernel) (by decide) (fun _ C => ?_)
  refine st_bd (ci_Im C) (fun _ C => ?_)
  refine st_sR C (fun _ C => ?_)
  refine st_gfr C (by decide +kernel) ?_
  refine st_nw C (by decide +kernel) (by decide) (fun _ C => ?_)
  refine st_bd (ci_Ru C) (fun _ C => ?_)
  refine st_sR C (fun _ C => ?_)
  refine st_gfr C (by decide +kernel) ?_
  refine st_nw C (by decide +kernel) (by decide) (fun _ C => ?_)
  refine st_bd (ci_Fit_0 C) (fun _ C => ?_)
  refine st_sR C (fun _ C => ?_)
  refine st_gfr C (by decide +kernel) ?_
  refine st_nw C (by decide +kernel) (by decide) (fun _ C => ?_)
  refine st_bd (ci_Fit_1 C) (fun _ C => ?_)
  refine st_sR C (fun _ C => ?_)
  refine st_gfr C (by decide +kernel) ?_
  refine st_nw C (by decide +kernel) (by decide) (fun _ C => ?_)
  refine st_sR C (fun _ C => ?_)
  refine st_gfr C (by decide +kernel) ?_
  refine st_nw C (by decide +kernel) (by decide) (fun _ C => ?_)
  refine st_bd (ci_Ke C) (fun _ C => ?_)
  refine st_sR C (fun _ C => ?_)
  refine st_gfr C (by decide +kernel) ?_
  refine st_nw C (by decide +kernel) (by decide) (fun _ C => ?_)
  refine st_bd (ci_Li C) (fun _ C => ?_)
  refine st_sR C (fun _ C => ?_)
  exact st_end C
theorem ci_Mo {μ : Mem} (C : CS [(12, 0, 1), (207, 0, 1), (206, 0, 1), (205, 0, 1), (203, 0, 1), (201, 0, 1), (200, 0, 1), (600, 0, 3), (5, 0, 1), (161, 0, 1), (561, 0, 32), (160, 0, 1), (560, 0, 16), (3, 0, 1), (329, 0, 1), (103, 1, 1), (102, 1, 1), (502, 2, 2), (101, 1, 1), (501, 2, 2), (100, 1, 1), (500, 2, 2), (0, 1, 1), (103, 0, 1), (102, 0, 1), (502, 0, 2), (101, 0, 1), (501, 0, 2), (100, 0, 1), (500, 0, 2), (0, 0, 1), (282, 0, 1), (281, 0, 1), (280, 0, 1), (9, 0, 1), (141, 0, 1), (140, 0, 1), (2, 0, 1), (243, 1, 1), (242, 1, 1), (241, 1, 1), (240, 1, 1), (7, 1, 1), (243, 0, 1), (242, 0, 1), (241, 0, 1), (240, 0, 1), (7, 0, 1), (124, 0, 1), (123, 0, 1), (122, 0, 1), (121, 0, 1), (120, 0, 1), (1, 0, 1), (320, 0, 1), (11, 0, 1)] [(11, 0, 11, 0), (5, 0, 7, 0), (5, 0, 6, 0), (5, 0, 5, 0), (5, 0, 3, 0), (5, 0, 1, 0), (5, 0, 0, 0), (11, 0, 10, 0), (3, 0, 1, 0), (3, 0, 0, 0), (11, 0, 9, 0), (11, 0, 8, 1), (0, 1, 3, 1), (0, 1, 2, 1), (0, 1, 1, 1), (0, 1, 0, 1), (11, 0, 7, 0), (0, 0, 3, 0), (0, 0, 2, 0), (0, 0, 1, 0), (0, 0, 0, 0), (11, 0, 6, 0), (9, 0, 2, 0), (9, 0, 1, 0), (9, 0, 0, 0), (11, 0, 5, 0), (2, 0, 1, 0), (2, 0, 0, 0), (11, 0, 4, 1), (7, 1, 3, 1), (7, 1, 2, 1), (7, 1, 1, 1), (7, 1, 0, 1), (11, 0, 3, 0), (7, 0, 3, 0), (7, 0, 2, 0), (7, 0, 1, 0), (7, 0, 0, 0), (11, 0, 2, 0), (1, 0, 4, 0), (1, 0, 3, 0), (1, 0, 2, 0), (1, 0, 1, 0), (1, 0, 0, 0), (11, 0, 0, 0)] true μ) : Ok (m_Mo_init μ) [(411, 0, 1), (410, 0, 1), (409, 0, 1), (407, 0, 1), (405, 0, 1), (403, 0, 1), (402, 0, 1), (401, 0, 1), (400, 0, 1), (399, 0, 1), (398, 0, 1), (397, 0, 1), (396, 0, 1), (395, 0, 1), (394, 0, 1), (391, 0, 1), (390, 0, 1), (389, 0, 1), (388, 0, 1), (387, 0, 1), (386, 0, 1), (384, 0, 1), (383, 0, 1), (381, 0, 1), (380, 0, 1), (379, 0, 1), (376, 0, 1), (375, 0, 1), (374, 0, 1), (373, 0, 1), (370, 0, 1), (369, 0, 1), (368, 0, 1), (366, 0, 1), (365, 0, 1), (364, 0, 1), (361, 0, 1), (360, 0, 1), (359, 0, 1), (358, 0, 1), (357, 0, 1), (356, 0, 1), (355, 0, 1), (354, 0, 1), (353, 0, 1), (352, 0, 1), (351, 0, 1), (350, 0, 1), (349, 0, 1), (348, 0, 1), (347, 0, 1), (346, 0, 1), (345, 0, 1), (344, 0, 1), (343, 0, 1), (342, 0, 1), (341, 0, 1), (12, 0, 1), (207, 0, 1), (206, 0, 1), (205, 0, 1), (203, 0, 1), (201, 0, 1), (200, 0, 1), (600, 0, 3), (5, 0, 1), (161, 0, 1), (561, 0, 32), (160, 0, 1), (560, 0, 16), (3, 0, 1), (329, 0, 1), (103, 1, 1), (102, 1, 1), (502, 2, 2), (101, 1, 1), (501, 2, 2), (100, 1, 1), (500, 2, 2), (0, 1, 1), (103, 0, 1), (102, 0, 1), (502, 0, 2), (101, 0, 1), (501, 0, 2), (100, 0, 1), (500, 0, 2), (0, 0, 1), (282, 0, 1), (281, 0, 1), (280, 0, 1), (9, 0, 1), (141, 0, 1), (140, 0, 1), (2, 0, 1), (243, 1, 1), (242, 1, 1), (241, 1, 1), (240, 1, 1), (7, 1, 1), (243, 0, 1), (242, 0, 1), (241, 0, 1), (240, 0, 1), (7, 0, 1), (124, 0, 1), (123, 0, 1), (122, 0, 1), (121, 0, 1), (120, 0, 1), (1, 0, 1), (320, 0, 1), (11, 0, 1)] [(12, 0, 71, 0), (12, 0, 70, 0), (12, 0, 69, 0), (12, 0, 67, 0), (12, 0, 65, 0), (12, 0, 63, 0), (12, 0, 62, 0), (12, 0, 61, 0), (12, 0, 60, 0), (12, 0, 59, 0), (12, 0, 58, 0), (12, 0, 57, 0), (12, 0, 56, 0), (12, 0, 55, 0), (12, 0, 54, 0), (12, 0, 51, 0), (12, 0, 50, 0), (12, 0, 49, 0), (12, 0, 48, 0), (12, 0, 47, 0), (12, 0, 46, 0), (12, 0, 44, 0), (12, 0, 43, 0), (12, 0, 41, 0), (12, 0, 40, 0), (12, 0, 39, 0), (12, 0, 36, 0), (12, 0, 35, 0), (12, 0, 34, 0), (12, 0, 33, 0), (12, 0, 30, 0), (12, 0, 29, 0), (12, 0, 28, 0), (12, 0, 26, 0), (12, 0, 25, 0), (12, 0, 24, 0), (12, 0, 21, 0), (12, 0, 20, 0), (12, 0, 19, 0), (12, 0, 18, 0), (12, 0, 17, 0), (12, 0, 16, 0), (12, 0, 15, 0), (12, 0, 14, 0), (12, 0, 13, 0), (12, 0, 12, 0), (12, 0, 11, 0), (12, 0, 10, 0), (12, 0, 9, 0), (12, 0, 8, 0), (12, 0, 7, 0), (12, 0, 6, 0), (12, 0, 5, 0), (12, 0, 4, 0), (12, 0, 3, 0), (12, 0, 2, 0), (12, 0, 1, 0), (11, 0, 11, 0), (5, 0, 7, 0), (5, 0, 6, 0), (5, 0, 5, 0), (5, 0, 3, 0), (5, 0, 1, 0), (5, 0, 0, 0), (11, 0, 10, 0), (3, 0, 1, 0), (3, 0, 0, 0), (11, 0, 9, 0), (11, 0, 8, 1), (0, 1, 3, 1), (0, 1, 2, 1), (0, 1, 1, 1), (0, 1, 0, 1), (11, 0, 7, 0), (0, 0, 3, 0), (0, 0, 2, 0), (0, 0, 1, 0), (0, 0, 0, 0), (11, 0, 6, 0), (9, 0, 2, 0), (9, 0, 1, 0), (9, 0, 0, 0), (11, 0, 5, 0), (2, 0, 1, 0), (2, 0, 0, 0), (11, 0, 4, 1), (7, 1, 3, 1), (7, 1, 2, 1), (7, 1, 1, 1), (7, 1, 0, 1), (11, 0, 3, 0), (7, 0, 3, 0), (7, 0, 2, 0), (7, 0, 1, 0), (7, 0, 0, 0), (11, 0, 2, 0), (1, 0, 4, 0), (1, 0, 3, 0), (1, 0, 2, 0), (1, 0, 1, 0), (1, 0, 0, 0), (11, 0, 0, 0)] true := by
  unfold m_Mo_init
  refine st_gfr C (by decide +kernel) ?_
  refine st_nw C (by decide +kernel) (by decide) (fun _ C => ?_)
  refine st_sR C (fun _ C => ?_)
  refine st_gfr C (by decide +kernel) ?_
  refine st_nw C (by decide +kernel) (by decide) (fun _ C => ?_)
  refine st_sR C (fun _ C => ?_)
  refine st_gfr C (by decide +kernel) ?_
  refine st_nw C (by decide +kernel) (by decide) (fun _ C => ?_)
  refine st_sR C (fun _ C => ?_)
  refine st_gfr C (by decide +kernel) ?_
  refine st_nw C (by decide +kernel) (by decide) (fun _ C => ?_)
  refine st_sR C (fun _ C => ?_)
  refine st_gfr C (by decide +kernel) ?_
  refine st_nw C (by decide +kernel) (by decide) (fun _ C => ?_)
  refine st_sR C (fun _ C => ?_)
  refine st_gfr C (by decide +kernel) ?_
  refine st_nw C (by decide +kernel) (by decide) (fun _ C => ?_)
  refine st_sR C (fun _ C => ?_)
  refine st_gfr C (by decide +kernel) ?_
  refine st_nw C (by decide +kernel) (by decide) (fun _ C => ?_)
  refine st_sR C (fun _ C => ?_)
  refine st_gfr C (by decide +kernel) ?_
  refine st_nw C (by decide +kernel) (by decide) (fun _ C => ?_)
  refine st_sR C (fun _ C => ?_)
  refine st_gfr C (by decide +kernel) ?_
  refine st_nw C (by decide +kernel) (by decide) (fun _ C => ?_)
  refine st_sR C (fun _ C => ?_)
  refine st_gfr C (by decide +kernel) ?_
  refine st_nw C (by decide +kernel) (by decide) (fun _ C => ?_)
  refine st_sR C (fun _ C => ?_)
  refine st_gfr C (by decide +kernel) ?_
  refine st_nw C (by decide +kernel) (by decide) (fun _ C => ?_)
  refine st_sR C (fun _ C => ?_)
  refine st_gfr C (by decide +kernel) ?_
  refine st_nw C (by decide +kernel) (by decide) (fun _ C => ?_)
  refine st_sR C (fun _ C => ?_)
  refine st_gfr C (by decide +kernel) ?_
  refine st_nw C (by decide +kernel) (by decide) (fun _ C => ?_)
  refine st_sR C (fun _ C => ?_)
  refine st_gfr C (by decide +kernel) ?_
  refine st_nw C (by decide +kernel) (by decide) (fun _ C => ?_)
  refine st_sR C (fun _ C => ?_)
  refine st_gfr C (by decide +kernel) ?_
  refine st_nw C (by decide +kernel) (by decide) (fun _ C => ?_)
  refine st_sR C (fun _ C => ?_)
  refine st_gfr C (by decide +kernel) ?_
  refine st_nw C (by decide +kernel) (by decide) (fun _ C => ?_)
  refine st_sR C (fun _ C => ?_)
  refine st_gfr C (by decide +kernel) ?_
  refine st_nw C (by decide +kernel) (by decide) (fun _ C => ?_)
  refine st_sR C (fun _ C => ?_)
  refine st_gfr C (by decide +kernel) ?_
  refine st_nw C (by decide +kernel) (by decide) (fun _ C => ?_)
  refine st_sR C (fun _ C => ?_)
  refine st_gfr C (by decide +kernel) ?_
  refine st_nw C (by decide +kernel) (by decide) (fun _ C => ?_)
  refine st_sR C (fun _ C => ?_)
  refine st_gfr C (by decide +kernel) ?_
  refine st_nw C (by decide +kernel) (by decide) (fun _ C => ?_)
  refine st_sR C (fun _ C => ?_)
  refine st_gfr C (by decide +kernel) ?_
  refine st_nw C (by decide +kernel) (by decide) (fun _ C => ?_)
  refine st_sR C (fun _ C => ?_)
  refine st_gfr C (by decide +kernel) ?_
  refine st_nw C (by decide +kernel) (by decide) (fun _ C => ?_)
  refine st_sR C (fun _ C => ?_)
  refine st_gfr C (by decide +kernel) ?_
  refine st_nw C (by decide +kernel) (by decide) (fun _ C => ?_)
  refine st_sR C (fun _ C => ?_)
  refine st_gfr C (by decide +kernel) ?_
  refine st_nw C (by decide +kernel) (by decide) (fun _ C => ?_)
  refine st_sR C (fun _ C => ?_)
  refine st_gfr C (by decide +kernel) ?_
  refine st_nw C (by decide +kernel) (by decide) (fun _ C => ?_)
  refine st_sR C (fun _ C => ?_)
  refine st_gfr C (by decide +kernel) ?_
  refine st_nw C (by decide +kernel) (by decide) (fun _ C => ?_)
  refine st_sR C (fun _ C => ?_)
  refine st_gfr C (by decide +kernel) ?_
  refine st_nw C (by decide +kernel) (by decide) (fun _ C => ?_)
  refine st_sR C (fun _ C => ?_)
  refine st_gfr C (by decide +kernel) ?_
  refine st_nw C (by decide +kernel) (by decide) (fun _ C => ?_)
  refine st_sR C (fun _ C => ?_)
  refine st_gfr C (by decide +kernel) ?_
  refine st_nw C (by decide +kernel) (by decide) (fun _ C => ?_)
  refine st_sR C (fun _ C => ?_)
  refine st_gfr C (by decide +kernel) ?_
  refine st_nw C (by decide +kernel) (by decide) (fun _ C => ?_)
  refine st_sR C (fun _ C => ?_)
  refine st_gfr C (by decide +kernel) ?_
  refine st_nw C (by decide +kernel) (by decide) (fun _ C => ?_)
  refine st_sR C (fun _ C => ?_)
  refine st_gfr C (by decide +kernel) ?_
  refine st_nw C (by decide +kernel) (by decide) (fun _ C => ?_)
  refine st_sR C (fun _ C => ?_)
  refine st_gfr C (by decide +kernel) ?_
  refine st_nw C (by decide +kernel) (by decide) (fun _ C => ?_)
  refine st_sR C (fun _ C => ?_)
  refine st_gfr C (by decide +kernel) ?_
  refine st_nw C (by decide +kernel) (by decide) (fun _ C => ?_)
  refine st_sR C (fun _ C => ?_)
  refine st_gfr C (by decide +kernel) ?_
  refine st_nw C (by decide +kernel) (by decide) (fun _ C => ?_)
  refine st_sR C (fun _ C => ?_)
  refine st_gfr C (by decide +kernel) ?_
  refine st_nw C (by decide +kernel) (by decide) (fun _ C => ?_)
  refine st_sR C (fun _ C => ?_)
  refine st_gfr C (by decide +kernel) ?_
  refine st_nw C (by decide +kernel) (by decide) (fun _ C => ?_)
  refine st_sR C (fun _ C => ?_)
  refine st_gfr C (by decide +kernel) ?_
  refine st_nw C (by decide +kernel) (by decide) (fun _ C => ?_)
  refine st_sR C (fun _ C => ?_)
  refine st_gfr C (by decide +kernel) ?_
  refine st_nw C (by decide +kernel) (by decide) (fun _ C => ?_)
  refine st_sR C (fun _ C => ?_)
  refine st_gfr C (by decide +kernel) ?_
  refine st_nw C (by decide +kernel) (by decide) (fun _ C => ?_)
  refine st_sR C (fun _ C => ?_)
  refine st_gfr C (by decide +kernel) ?_
  refine st_nw C (by decide +kernel) (by decide) (fun _ C => ?_)
  refine st_sR C (fun _ C => ?_)
  refine st_gfr C (by decide +kernel) ?_
  refine st_nw C (by decide +kernel) (by decide) (fun _ C => ?_)
  refine st_sR C (fun _ C => ?_)
  refine st_gfr C (by decide +kernel) ?_
  refine st_nw C (by decide +kernel) (by decide) (fun _ C => ?_)
  refine st_sR C (fun _ C => ?_)
  refine st_gfr C (by decide +kernel) ?_
  refine st_nw C (by decide +kernel) (by decide) (fun _ C => ?_)
  refine st_sR C (fun _ C => ?_)
  refine st_gfr C (by decide +kernel) ?_
  refine st_nw C (by decide +kernel) (by decide) (fun _ C => ?_)
  refine st_sR C (fun _ C => ?_)
  refine st_gfr C (by decide +kernel) ?_
  refine st_nw C (by decide +kernel) (by decide) (fun _ C => ?_)
  refine st_sR C (fun _ C => ?_)
  refine st_gfr C (by decide +kernel) ?_
  refine st_nw C (by decide +kernel) (by decide) (fun _ C => ?_)
  refine st_sR C (fun _ C => ?_)
  refine st_gfr C (by decide +kernel) ?_
  refine st_nw C (by decide +kernel) (by decide) (fun _ C => ?_)
  refine st_sR C (fun _ C => ?_)
  refine st_gfr C (by decide +kernel) ?_
  refine st_nw C (by decide +kernel) (by decide) (fun _ C => ?_)
  refine st_sR C (fun _ C => ?_)
  refine st_gfr C (by decide +kernel) ?_
  refine st_nw C (by decide +kernel) (by decide) (fun _ C => ?_)
  refine st_sR C (fun _ C => ?_)
  refine st_gfr C (by decide +kernel) ?_
  refine st_nw C (by decide +kernel) (by decide) (fun _ C => ?_)
  refine st_sR C (fun _ C => ?_)
  refine st_gfr C (by decide +kernel) ?_
  refine st_nw C (by decide +kernel) (by decide) (fun _ C => ?_)
  refine st_sR C (fun _ C => ?_)
  refine st_gfr C (by decide +kernel) ?_
  refine st_nw C (by decide +kernel) (by decide) (fun _ C => ?_)
  refine st_sR C (fun _ C => ?_)
  refine st_gfr C (by decide +kernel) ?_
  refine st_nw C (by decide +kernel) (by decide) (fun _ C => ?_)
  refine st_sR C (fun _ C => ?_)
  refine st_gfr C (by decide +kernel) ?_
  refine st_nw C (by decide +kernel) (by decide) (fun _ C => ?_)
  refine st_sR C (fun _ C => ?_)
  refine st_gfr C (by decide +kernel) ?_
  refine st_nw C (by decide +kernel) (by decide) (fun _ C => ?_)
  refine st_sR C (fun _ C => ?_)
  refine st_gfr C (by decide +kernel) ?_
  refine st_nw C (by decide +kernel) (by decide) (fun _ C => ?_)
  refine st_sR C (fun _ C => ?_)
  exact st_end C
def L9 : List (Nat × Nat × Nat) := [(411, 0, 1), (410, 0, 1), (409, 0, 1), (407, 0, 1), (405, 0, 1), (403, 0, 1), (402, 0, 1), (401, 0, 1), (400, 0, 1), (399, 0, 1), (398, 0, 1), (397, 0, 1), (396, 0, 1), (395, 0, 1), (394, 0, 1), (391, 0, 1), (390, 0, 1), (389, 0, 1), (388, 0, 1), (387, 0, 1), (386, 0, 1), (384, 0, 1), (383, 0, 1), (381, 0, 1), (380, 0, 1), (379, 0, 1), (376, 0, 1), (375, 0, 1), (374, 0, 1), (373, 0, 1), (370, 0, 1), (369, 0, 1), (368, 0, 1), (366, 0, 1), (365, 0, 1), (364, 0, 1), (361, 0, 1), (360, 0, 1), (359, 0, 1), (358, 0, 1), (357, 0, 1), (356, 0, 1), (355, 0, 1), (354, 0, 1), (353, 0, 1), (352, 0, 1), (351, 0, 1), (350, 0, 1), (349, 0, 1), (348, 0, 1), (347, 0, 1), (346, 0, 1), (345, 0, 1), (344, 0, 1), (343, 0, 1), (342, 0, 1), (341, 0, 1), (12, 0, 1), (207, 0, 1), (206, 0, 1), (205, 0, 1), (203, 0, 1), (201, 0, 1), (200, 0, 1), (600, 0, 3), (5, 0, 1), (161, 0, 1), (561, 0, 32), (160, 0, 1), (560, 0, 16), (3, 0, 1), (329, 0, 1), (103, 1, 1), (102, 1, 1), (502, 2, 2), (101, 1, 1), (501, 2, 2), (100, 1, 1), (500, 2, 2), (0, 1, 1), (103, 0, 1), (102, 0, 1), (502, 0, 2), (101, 0, 1), (501, 0, 2), (100, 0, 1), (500, 0, 2), (0, 0, 1), (282, 0, 1), (281, 0, 1), (280, 0, 1), (9, 0, 1), (141, 0, 1), (140, 0, 1), (2, 0, 1), (243, 1, 1), (242, 1, 1), (241, 1, 1), (240, 1, 1), (7, 1, 1), (243, 0, 1), (242, 0, 1), (241, 0, 1), (240, 0, 1), (7, 0, 1), (124, 0, 1), (123, 0, 1), (122, 0, 1), (121, 0, 1), (120, 0, 1), (1, 0, 1), (320, 0, 1), (11, 0, 1)]
def Q9 : List (Nat × Nat × Nat × Nat) := [(12, 0, 71, 0), (12, 0, 70, 0), (12, 0, 69, 0), (12, 0, 67, 0), (12, 0, 65, 0), (12, 0, 63, 0), (12, 0, 62, 0), (12, 0, 61, 0), (12, 0, 60, 0), (12, 0, 59, 0), (12, 0, 58, 0), (12, 0, 57, 0), (12, 0, 56, 0), (12, 0, 55, 0), (12, 0, 54, 0), (12, 0, 51, 0), (12, 0, 50, 0), (12, 0, 49, 0), (12, 0, 48, 0), (12, 0, 47, 0), (12, 0, 46, 0), (12, 0, 44, 0), (12, 0, 43, 0), (12, 0, 41, 0), (12, 0, 40, 0), (12, 0, 39, 0), (12, 0, 36, 0), (12, 0, 35, 0), (12, 0, 34, 0), (12, 0, 33, 0), (12, 0, 30, 0), (12, 0, 29, 0), (12, 0, 28, 0), (12, 0, 26, 0), (12, 0, 25, 0), (12, 0, 24, 0), (12, 0, 21, 0), (12, 0, 20, 0), (12, 0, 19, 0), (12, 0, 18, 0), (12, 0, 17, 0), (12, 0, 16, 0), (12, 0, 15, 0), (12, 0, 14, 0), (12, 0, 13, 0), (12, 0, 12, 0), (12, 0, 11, 0), (12, 0, 10, 0), (12, 0, 9, 0), (12, 0, 8, 0), (12, 0, 7, 0), (12, 0, 6, 0), (12, 0, 5, 0), (12, 0, 4, 0), (12, 0, 3, 0), (12, 0, 2, 0), (12, 0, 1, 0), (11, 0, 11, 0), (5, 0, 7, 0), (5, 0, 6, 0), (5, 0, 5, 0), (5, 0, 3, 0), (5, 0, 1, 0), (5, 0, 0, 0), (11, 0, 10, 0), (3, 0, 1, 0), (3, 0, 0, 0), (11, 0, 9, 0), (11, 0, 8, 1), (0, 1, 3, 1), (0, 1, 2, 1), (0, 1, 1, 1), (0, 1, 0, 1), (11, 0, 7, 0), (0, 0, 3, 0), (0, 0, 2, 0), (0, 0, 1, 0), (0, 0, 0, 0), (11, 0, 6, 0), (9, 0, 2, 0), (9, 0, 1, 0), (9, 0, 0, 0), (11, 0, 5, 0), (2, 0, 1, 0), (2, 0, 0, 0), (11, 0, 4, 1), (7, 1, 3, 1), (7, 1, 2, 1), (7, 1, 1, 1), (7, 1, 0, 1), (11, 0, 3, 0), (7, 0, 3, 0), (7, 0, 2, 0), (7, 0, 1, 0), (7, 0, 0, 0), (11, 0, 2, 0), (1, 0, 4, 0), (1, 0, 3, 0), (1, 0, 2, 0), (1, 0, 1, 0), (1, 0, 0, 0), (11, 0, 0, 0)]
theorem both_init : ∃ μ1 μ2, m_Fo_init (nw em 11 0) = some μ1 ∧ gF μ1 12 0 = false ∧ m_Mo_init (nw μ1 12 0) = some μ2 ∧ CS L9 Q9 true μ2 := by
  obtain ⟨μ1, e1, C1⟩ := ci_Fo (cs_nw (k := 11) (l := 0) cs_em (by decide +kernel) (by decide))
  obtain ⟨μ2, e2, C2⟩ := ci_Mo (cs_nw (k := 12) (l := 0) C1 (by decide +kernel) (by decide))
  exact ⟨μ1, μ2, e1, by rw [C1.1]; decide +kernel, e2, C2⟩
theorem fin_80 : ∀ k j, FIN k j = true → j < 80 := by
  intro k j h
  by_cases w : j < 80
  · exact w
  · exfalso
    obtain ⟨i, rfl⟩ : ∃ i, j = i + 80 := ⟨j - 80, by omega⟩
    match k, h with
    | 0, h => cases h
    | 1, h => cases h
    | 2, h => cases h
    | 3, h => cases h
    | 4, h => cases h
    | 5, h => cases h
    | 6, h => cases h
    | 7, h => cases h
    | 8, h => cases h
    | 9, h => cases h
    | 10, h => cases h
    | 11, h => cases h
    | 12, h => cases h
    | k + 13, h => cases h
def lnk (L : List (Nat × Nat × Nat)) (Q : List (Nat × Nat × Nat × Nat)) : Bool := L.all fun e => Nat.ble 13 e.1 || (Nat.beq e.2.2 1 && (List.range 80).all fun j => !(FIN e.1 j) || (match lk Q e.1 e.2.1 j with | some v => Nat.beq v e.2.1 | none => false))
theorem lnk_ok : lnk L9 Q9 = true := by decide +kernel
theorem cv_mem {L : List (Nat × Nat × Nat)} {k l : Nat} (h : cv L k l = true) : ∃ e, e ∈ L ∧ k = e.1 ∧ e.2.1 ≤ l ∧ l < e.2.1 + e.2.2 := by
  unfold cv at h
  obtain ⟨e, he, h⟩ := List.any_eq_true.mp h
  rw [Bool.and_eq_true, Bool.and_eq_true] at h
  exact ⟨e, he, Nat.eq_of_beq_eq_true h.1, Nat.le_of_ble_eq_true h.2.1, Nat.le_of_ble_eq_true h.2.2⟩
theorem cs_link {L : List (Nat × Nat × Nat)} {Q : List (Nat × Nat × Nat × Nat)} {b : Bool} {μ : Mem} (C : CS L Q b μ) (h : lnk L Q = true) : LinkOK μ := by
  intro k l h1 h2 j hj
  rw [C.1] at h1
  obtain ⟨e, he, rfl, q1, q2⟩ := cv_mem h1
  have h3 := List.all_eq_true.mp h e he
  rw [Bool.or_eq_true] at h3
  rcases h3 with h3 | h3
  · have := Nat.le_of_ble_eq_true h3; omega
  · rw [Bool.and_eq_true] at h3
    have e1 := Nat.eq_of_beq_eq_true h3.1
    obtain rfl : l = e.2.1 := by omega
    have h4 := List.all_eq_true.mp h3.2 j (List.mem_range.mpr (fin_80 _ _ hj))
    rw [hj] at h4
    rw [C.2.1]
    cases h5 : lk Q e.1 e.2.1 j with
    | none => rw [h5] at h4; cases h4
    | some v => rw [h5] at h4; exact congrArg some (Nat.eq_of_beq_eq_true h4)
theorem cv_no {L : List (Nat × Nat × Nat)} {k l : Nat} (h : (L.all fun e => !(Nat.beq k e.1)) = true) : cv L k l = false := by
  rw [← Bool.not_eq_true]
  intro q
  obtain ⟨e, he, rfl, -, -⟩ := cv_mem q
  have := List.all_eq_true.mp h e he
  rw [Nat.beq_refl] at this
  cases this
theorem cnt_0 {f : Nat → Int32} (hf : ∀ k, f k = 0) : ∀ n, cnt f n = 0 := by
  intro n
  induction n with
  | zero => rfl
  | succ n ih => rw [cnt, ih, hf, if_neg (by decide)]
theorem cs_iz {μ : Mem} (C : CS L9 Q9 true μ) : IZ μ := by
  have z : ∀ k l j, k ≠ 561 → gI μ k l j = 0 := C.2.2.1
  have b0 : ∀ a b : Int, a ≤ 0 → 0 ≤ b → bI 0 a b := fun a b h1 h2 => ⟨h1, h2⟩
  refine ⟨0, ⟨⟨by omega, z _ _ _ (by decide), z _ _ _ (by decide), fun l => ?_, fun l h => by omega, fun i j h => by omega⟩, fun l h => by omega, fun l h => by omega, ⟨fun _ => 0, fun l h => by omega⟩, fun l h => by omega, fun l h => by omega, ⟨fun c d _ _ => ?_, fun a d ha hd => ?_⟩, fun m hm => ?_, ⟨0, by omega, z _ _ _ (by decide), z _ _ _ (by decide), fun k h => by omega⟩, ⟨0, by omega, z _ _ _ (by decide), z _ _ _ (by decide), fun k h => by omega⟩, ⟨0, by omega, z _ _ _ (by decide), z _ _ _ (by decide), fun k h => by omega, fun _ => z _ _ _ (by decide), fun k l h => by omega⟩, ⟨0, 1, 0, 0, fun _ => 0, Or.inl ⟨rfl, rfl⟩, ?_, ?_, by omega, z _ _ _ (by decide), z _ _ _ (by decide), rfl, rfl, fun j h => by omega, fun k h => by omega, fun j k h => by omega⟩, ⟨fun k hk => ?_, fun k _ => z _ _ _ (by decide), ?_, fun h => ?_⟩, ⟨0, 1, 0, Or.inl ⟨rfl, rfl⟩, ?_, ?_, by omega, z _ _ _ (by decide), z _ _ _ (by decide), fun k h => by omega⟩, fun l _ => ?_, fun l k h => by omega⟩, fun l _ => ?_⟩
  · rw [C.2.1, fz_none (by decide +kernel), if_neg (by omega)]
  · rw [z _ _ _ (by decide), z _ _ _ (by decide)]; exact ⟨rfl, b0 _ _ (by omega) (by omega)⟩
  · exact Or.inl ⟨z _ _ _ (by decide), C.2.2.2 rfl a d ha hd⟩
  · rw [z _ _ _ (by decide), z _ _ _ (by decide)]; exact ⟨rfl, b0 _ _ (by omega) (by omega)⟩
  · rw [C.2.1]; decide +kernel
  · rw [C.2.1]; decide +kernel
  · rw [z _ _ _ (by decide), z _ _ _ (by decide)]; exact ⟨rfl, b0 _ _ (by omega) (by omega)⟩
  · rw [z _ _ _ (by decide), cnt_0 (f := gI μ 140 0) (fun k => z 140 0 k (by decide))]; rfl
  · rw [cnt_0 (f := gI μ 140 0) (fun k => z 140 0 k (by decide))] at h; omega
  · rw [C.2.1]; decide +kernel
  · rw [C.2.1]; decide +kernel
  · have n0 : ∀ k, (L9.all fun e => !(Nat.beq k e.1)) = true → ∀ l, gF μ k l = false := fun k h l => by rw [C.1, cv_no h]
    exact ⟨n0 4 (by decide +kernel) _, n0 10 (by decide +kernel) _, n0 8 (by decide +kernel) _, n0 184 (by decide +kernel) _, n0 300 (by decide +kernel) _, n0 301 (by decide +kernel) _, n0 302 (by decide +kernel) _, n0 303 (by decide +kernel) _, n0 304 (by decide +kernel) _, n0 305 (by decide +kernel) _, n0 260 (by decide +kernel) _, n0 261 (by decide +kernel) _, fun k _ => ⟨n0 703 (by decide +kernel) _, n0 704 (by decide +kernel) _⟩, fun k _ => n0 6 (by decide +kernel) _⟩
  · exact ⟨z _ _ _ (by decide), z _ _ _ (by decide), z _ _ _ (by decide), z _ _ _ (by decide), z _ _ _ (by decide), z _ _ _ (by decide), z _ _ _ (by decide)⟩
