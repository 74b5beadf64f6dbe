/-! whole: the relation holds at the start, every call keeps it. -/
section X
variable {N h b : Nat}
theorem x_0 (hd : Dim N h b) : xs_0 N h b (fun a => AR N h b a a) := by
  intro a ha y0 y1 y2 y3 y4
  exact glue (F := f19_feed N h b y0 y1 y2 y3 y4) (G := f261_feed N h b y0 y1 y2 y3 y4) (fun c r H => g_feed hd.1 H) a ha
theorem x_1 (hd : Dim N h b) : xs_1 N h b (fun a => AR N h b a a) := by
  intro a ha y0
  exact glue (F := f21_end N h b y0) (G := f262_end N h b y0) (fun c r H => g_end H) a ha
theorem x_3 (hd : Dim N h b) : xs_3 N h b (fun a => AR N h b a a) := by
  intro a ha
  exact glue (F := f22_describe N h b) (G := f264_describe N h b) (fun c r H => g_describe hd.1 H) a ha
theorem x_4 (hd : Dim N h b) : xs_4 N h b (fun a => AR N h b a a) := by
  intro a ha y0
  exact glue (F := f70_fault N h b y0) (G := f292_fault N h b y0) (fun c r H => g_fault H) a ha
theorem x_5 (hd : Dim N h b) : xs_5 N h b (fun a => AR N h b a a) := by
  intro a ha
  exact glue (F := f71_use N h b) (G := f293_use N h b) (fun c r H => g_use hd.1 H) a ha
theorem x_7 (hd : Dim N h b) : xs_7 N h b (fun a => AR N h b a a) := by
  intro a ha
  exact glue (F := f93_ability N h b) (G := f295_ability N h b) (fun c r H => g_ability hd.1 H) a ha
theorem x_8 (hd : Dim N h b) : xs_8 N h b (fun a => AR N h b a a) := by
  intro a ha y0 y1 y2 y3
  exact glue (F := f94_expand N h b y0 y1 y2 y3) (G := f298_expand N h b y0 y1 y2 y3) (fun c r H => g_expand hd.1 H) a ha
theorem x_9 (hd : Dim N h b) : xs_9 N h b (fun a => AR N h b a a) := by
  intro a ha y0 y1 y2 y3
  exact glue (F := f95_open N h b y0 y1 y2 y3) (G := f306_open N h b y0 y1 y2 y3) (fun c r H => g_open hd.1 H) a ha
theorem x_10 (hd : Dim N h b) : xs_10 N h b (fun a => AR N h b a a) := by
  intro a ha y0
  exact glue (F := f97_close N h b y0) (G := f307_close N h b y0) (fun c r H => g_close H) a ha
theorem x_11 (hd : Dim N h b) : xs_11 N h b (fun a => AR N h b a a) := by
  intro a ha y0 y1 y2
  exact glue (F := f99_at N h b y0 y1 y2) (G := f309_at N h b y0 y1 y2) (fun c r H => g_at H) a ha
theorem x_12 (hd : Dim N h b) : xs_12 N h b (fun a => AR N h b a a) := by
  intro a ha y0 y1
  exact glue (F := f101_dress N h b y0 y1) (G := f310_dress N h b y0 y1) (fun c r H => g_dress H) a ha
theorem x_13 (hd : Dim N h b) : xs_13 N h b (fun a => AR N h b a a) := by
  intro a ha y0 y1 hy
  exact glue (F := f102_scrolls N h b y0 y1) (G := f311_scrolls N h b y0 y1) (fun c r H => g_scrolls H hy) a ha
theorem x_14 (hd : Dim N h b) : xs_14 N h b (fun a => AR N h b a a) := by
  intro a ha y0
  exact glue (F := f103_say N h b y0) (G := f312_say N h b y0) (fun c r H => g_say hd.1 H) a ha
theorem x_15 (hd : Dim N h b) : xs_15 N h b (fun a => AR N h b a a) := by
  intro a ha y0 y1
  exact glue (F := f112_erase N h b y0 y1) (G := f318_erase N h b y0 y1) (fun c r H => g_erase hd.1 H) a ha
theorem x_16 (hd : Dim N h b) : xs_16 N h b (fun a => AR N h b a a) := by
  intro a ha y0 y1
  exact glue (F := f114_rows N h b y0 y1) (G := f319_rows N h b y0 y1) (fun c r H => g_rows hd.1 H) a ha
theorem x_17 (hd : Dim N h b) : xs_17 N h b (fun a => AR N h b a a) := by
  intro a ha y0 y1
  exact glue (F := f115_cells N h b y0 y1) (G := f321_cells N h b y0 y1) (fun c r H => g_cells hd.1 H) a ha
theorem x_18 (hd : Dim N h b) : xs_18 N h b (fun a => AR N h b a a) := by
  intro a ha y0 y1
  exact glue (F := f116_roll N h b y0 y1) (G := f322_roll N h b y0 y1) (fun c r H => g_roll hd.1 H) a ha
theorem x_19 (hd : Dim N h b) : xs_19 N h b (fun a => AR N h b a a) := by
  intro a ha y0
  exact glue (F := f117_box N h b y0) (G := f323_box N h b y0) (fun c r H => g_box hd.1 H) a ha
theorem x_20 (hd : Dim N h b) : xs_20 N h b (fun a => AR N h b a a) := by
  intro a ha y0 y1 y2
  exact glue (F := f119_look N h b y0 y1 y2) (G := f324_look N h b y0 y1 y2) (fun c r H => g_look H) a ha
theorem x_21 (hd : Dim N h b) : xs_21 N h b (fun a => AR N h b a a) := by
  intro a ha y0 y1
  exact glue (F := f121_where N h b y0 y1) (G := f325_where N h b y0 y1) (fun c r H => g_where H) a ha
theorem x_22 (hd : Dim N h b) : xs_22 N h b (fun a => AR N h b a a) := by
  intro a ha y0
  exact glue (F := f123_show N h b y0) (G := f326_show N h b y0) (fun c r H => g_show hd.1 H) a ha
theorem x_23 (hd : Dim N h b) : xs_23 N h b (fun a => AR N h b a a) := by
  intro a ha
  exact glue (F := f125_update N h b) (G := f331_update N h b) (fun c r H => g_update hd.1 H) a ha
theorem x_24 (hd : Dim N h b) : xs_24 N h b (fun a => AR N h b a a) := by
  intro a ha
  exact glue (F := f157_redraw N h b) (G := f327_redraw N h b) (fun c r H => g_redraw H) a ha
theorem x_25 (hd : Dim N h b) : xs_25 N h b (fun a => AR N h b a a) := by
  intro a ha y0 y1
  exact glue (F := f158_known N h b y0 y1) (G := f328_known N h b y0 y1) (fun c r H => g_known H) a ha
theorem x_26 (hd : Dim N h b) : xs_26 N h b (fun a => AR N h b a a) := by
  intro a ha y0 y1
  exact glue (F := f159_wanted N h b y0 y1) (G := f330_wanted N h b y0 y1) (fun c r H => g_wanted H) a ha
theorem x_27 (hd : Dim N h b) : xs_27 N h b (fun a => AR N h b a a) := by
  intro a ha y0
  exact glue (F := f160_flags N h b y0) (G := f353_flags N h b y0) (fun c r H => g_flags hd.1 H) a ha
theorem x_28 (hd : Dim N h b) : xs_28 N h b (fun a => AR N h b a a) := by
  intro a ha
  exact glue (F := f166_write N h b) (G := f355_write N h b) (fun c r H => g_write hd.1 H) a ha
theorem x_29 (hd : Dim N h b) : xs_29 N h b (fun a => AR N h b a a) := by
  intro a ha y0
  exact glue (F := f170_read N h b y0) (G := f359_read N h b y0) (fun c r H => g_read hd.1 H) a ha
theorem x_30 (hd : Dim N h b) : xs_30 N h b (fun a => AR N h b a a) := by
  intro a ha y0 y1 hy
  exact glue (F := f173_key N h b y0 y1) (G := f411_key N h b y0 y1) (fun c r H => g_key H hy) a ha
theorem x_31 (hd : Dim N h b) : xs_31 N h b (fun a => AR N h b a a) := by
  intro a ha y0
  exact glue (F := f175_spoil N h b y0) (G := f364_spoil N h b y0) (fun c r H => g_spoil H) a ha
theorem x_32 (hd : Dim N h b) : xs_32 N h b (fun a => AR N h b a a) := by
  intro a ha y0
  exact glue (F := f177_ticks N h b y0) (G := f365_ticks N h b y0) (fun c r H => g_ticks hd H) a ha
theorem x_33 (hd : Dim N h b) : xs_33 N h b (fun a => AR N h b a a) := by
  intro a ha y0 y1
  exact glue (F := f248_screen N h b y0 y1) (G := f412_screen N h b y0 y1) (fun c r H => g_screen hd H) a ha
theorem x_34 (hd : Dim N h b) : xs_34 N h b (fun a => AR N h b a a) := by
  intro a ha y0
  exact glue (F := f250_width N h b y0) (G := f413_width N h b y0) (fun c r H => g_width hd H) a ha
theorem x_35 (hd : Dim N h b) : xs_35 N h b (fun a => AR N h b a a) := by
  intro a ha y0
  exact glue (F := f251_state N h b y0) (G := f414_state N h b y0) (fun c r H => g_state H) a ha
theorem x_36 (hd : Dim N h b) : xs_36 N h b (fun a => AR N h b a a) := by
  intro a ha y0
  exact glue (F := f254_count N h b y0) (G := f415_count N h b y0) (fun c r H => g_count hd.1 H) a ha
theorem x_37 (hd : Dim N h b) : xs_37 N h b (fun a => AR N h b a a) := by
  intro a ha y0 y1
  exact glue (F := f257_stop N h b y0 y1) (G := f416_stop N h b y0 y1) (fun c r H => g_stop hd H) a ha
theorem x_6 (hd : Dim N h b) : xs_6 N h b (fun a => AR N h b a a) := by
  intro a ha
  exact glue_e (F := f91_empty N h b) (G := f294_empty N h b) (fun c r H => g_empty hd.1 H) a ha
theorem x_2 : xs_2 N h b (fun a => AR N h b a a) := by
  intro a ha y0
  exact g_octet ha y0
theorem x_sim (hd : Dim N h b) : xSim N h b (fun a => AR N h b a a) := by
  unfold xSim
  exact ⟨x_0 hd, x_1 hd, x_2, x_3 hd, x_4 hd, x_5 hd, x_6 hd, x_7 hd, x_8 hd, x_9 hd, x_10 hd, x_11 hd, x_12 hd, x_13 hd, x_14 hd, x_15 hd, x_16 hd, x_17 hd, x_18 hd, x_19 hd, x_20 hd, x_21 hd, x_22 hd, x_23 hd, x_24 hd, x_25 hd, x_26 hd, x_27 hd, x_28 hd, x_29 hd, x_30 hd, x_31 hd, x_32 hd, x_33 hd, x_34 hd, x_35 hd, x_36 hd, x_37 hd⟩
end X
