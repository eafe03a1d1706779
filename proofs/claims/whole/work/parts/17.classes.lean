/-! ===== by program: mkcls.py: the classes by their numbers ===== -/
theorem cl0_w : ∀ k, k < 2 → u_lay RX0 TX0 k ∈ GW := by
  intro k hk
  match k, hk with
  | 0, _ => exact gw63
  | 1, _ => exact gw65
  | k + 2, hk => exact absurd hk (by omega)
theorem cl0 : ClF 0 := ⟨rfl, fun w hw => by
  obtain ⟨k, hk, rfl⟩ := List.mem_map.mp hw
  exact cl0_w k (List.mem_range.mp hk), tyX0_ok, nmX0, fun k _ => by
  show (TX0 k).1 = RX0
  unfold TX0 RX0
  split <;> rfl⟩
theorem cl1_w : ∀ k, k < 2 → u_lay RX1 TX1 k ∈ GW := by
  intro k hk
  match k, hk with
  | 0, _ => exact gw250
  | 1, _ => exact gw252
  | k + 2, hk => exact absurd hk (by omega)
theorem cl1 : ClF 1 := ⟨rfl, fun w hw => by
  obtain ⟨k, hk, rfl⟩ := List.mem_map.mp hw
  exact cl1_w k (List.mem_range.mp hk), tyX1_ok, nmX1, fun k _ => by
  show (TX1 k).1 = RX1
  unfold TX1 RX1
  split <;> rfl⟩
theorem cl2_w : ∀ k, k < 3 → u_lay RX2 TX2 k ∈ GW := by
  intro k hk
  match k, hk with
  | 0, _ => exact gw522
  | 1, _ => exact gw524
  | 2, _ => exact gw526
  | k + 3, hk => exact absurd hk (by omega)
theorem cl2 : ClF 2 := ⟨rfl, fun w hw => by
  obtain ⟨k, hk, rfl⟩ := List.mem_map.mp hw
  exact cl2_w k (List.mem_range.mp hk), tyX2_ok, nmX2, fun k _ => by
  show (TX2 k).1 = RX2
  unfold TX2 RX2
  split <;> rfl⟩
theorem cl3_w : ∀ k, k < 8 → u_lay RX3 TX3 k ∈ GW := by
  intro k hk
  match k, hk with
  | 0, _ => exact gw277
  | 1, _ => exact gw279
  | 2, _ => exact gw281
  | 3, _ => exact gw283
  | 4, _ => exact gw285
  | 5, _ => exact gw287
  | 6, _ => exact gw289
  | 7, _ => exact gw291
  | k + 8, hk => exact absurd hk (by omega)
theorem cl3 : ClF 3 := ⟨rfl, fun w hw => by
  obtain ⟨k, hk, rfl⟩ := List.mem_map.mp hw
  exact cl3_w k (List.mem_range.mp hk), tyX3_ok, nmX3, fun k _ => by
  show (TX3 k).1 = RX3
  unfold TX3 RX3
  split <;> rfl⟩
theorem cl4_w : ∀ k, k < 13 → u_lay RX4 TX4 k ∈ GW := by
  intro k hk
  match k, hk with
  | 0, _ => exact gw155
  | 1, _ => exact gw157
  | 2, _ => exact gw159
  | 3, _ => exact gw161
  | 4, _ => exact gw163
  | 5, _ => exact gw165
  | 6, _ => exact gw167
  | 7, _ => exact gw169
  | 8, _ => exact gw171
  | 9, _ => exact gw173
  | 10, _ => exact gw175
  | 11, _ => exact gw177
  | 12, _ => exact gw179
  | k + 13, hk => exact absurd hk (by omega)
theorem cl4 : ClF 4 := ⟨rfl, fun w hw => by
  obtain ⟨k, hk, rfl⟩ := List.mem_map.mp hw
  exact cl4_w k (List.mem_range.mp hk), tyX4_ok, nmX4, fun k _ => by
  show (TX4 k).1 = RX4
  unfold TX4 RX4
  split <;> rfl⟩
theorem cl5_w : ∀ k, k < 2 → u_lay RX5 TX5 k ∈ GW := by
  intro k hk
  match k, hk with
  | 0, _ => exact gw37
  | 1, _ => exact gw39
  | k + 2, hk => exact absurd hk (by omega)
theorem cl5 : ClF 5 := ⟨rfl, fun w hw => by
  obtain ⟨k, hk, rfl⟩ := List.mem_map.mp hw
  exact cl5_w k (List.mem_range.mp hk), tyX5_ok, nmX5, fun k _ => by
  show (TX5 k).1 = RX5
  unfold TX5 RX5
  split <;> rfl⟩
theorem cl6_w : ∀ k, k < 6 → u_lay RX6 TX6 k ∈ GW := by
  intro k hk
  match k, hk with
  | 0, _ => exact gw224
  | 1, _ => exact gw226
  | 2, _ => exact gw228
  | 3, _ => exact gw230
  | 4, _ => exact gw232
  | 5, _ => exact gw234
  | k + 6, hk => exact absurd hk (by omega)
theorem cl6 : ClF 6 := ⟨rfl, fun w hw => by
  obtain ⟨k, hk, rfl⟩ := List.mem_map.mp hw
  exact cl6_w k (List.mem_range.mp hk), tyX6_ok, nmX6, fun k _ => by
  show (TX6 k).1 = RX6
  unfold TX6 RX6
  split <;> rfl⟩
theorem cl7_w : ∀ k, k < 6 → u_lay RX7 TX7 k ∈ GW := by
  intro k hk
  match k, hk with
  | 0, _ => exact gw309
  | 1, _ => exact gw311
  | 2, _ => exact gw313
  | 3, _ => exact gw315
  | 4, _ => exact gw317
  | 5, _ => exact gw319
  | k + 6, hk => exact absurd hk (by omega)
theorem cl7 : ClF 7 := ⟨rfl, fun w hw => by
  obtain ⟨k, hk, rfl⟩ := List.mem_map.mp hw
  exact cl7_w k (List.mem_range.mp hk), tyX7_ok, nmX7, fun k _ => by
  show (TX7 k).1 = RX7
  unfold TX7 RX7
  split <;> rfl⟩
theorem cl8_w : ∀ k, k < 3 → u_lay RX8 TX8 k ∈ GW := by
  intro k hk
  match k, hk with
  | 0, _ => exact gw541
  | 1, _ => exact gw543
  | 2, _ => exact gw545
  | k + 3, hk => exact absurd hk (by omega)
theorem cl8 : ClF 8 := ⟨rfl, fun w hw => by
  obtain ⟨k, hk, rfl⟩ := List.mem_map.mp hw
  exact cl8_w k (List.mem_range.mp hk), tyX8_ok, nmX8, fun k _ => by
  show (TX8 k).1 = RX8
  unfold TX8 RX8
  split <;> rfl⟩
theorem cl9_w : ∀ k, k < 15 → u_lay RX9 TX9 k ∈ GW := by
  intro k hk
  match k, hk with
  | 0, _ => exact gw378
  | 1, _ => exact gw380
  | 2, _ => exact gw382
  | 3, _ => exact gw384
  | 4, _ => exact gw386
  | 5, _ => exact gw388
  | 6, _ => exact gw390
  | 7, _ => exact gw392
  | 8, _ => exact gw394
  | 9, _ => exact gw396
  | 10, _ => exact gw398
  | 11, _ => exact gw400
  | 12, _ => exact gw402
  | 13, _ => exact gw404
  | 14, _ => exact gw406
  | k + 15, hk => exact absurd hk (by omega)
theorem cl9 : ClF 9 := ⟨rfl, fun w hw => by
  obtain ⟨k, hk, rfl⟩ := List.mem_map.mp hw
  exact cl9_w k (List.mem_range.mp hk), tyX9_ok, nmX9, fun k _ => by
  show (TX9 k).1 = RX9
  unfold TX9 RX9
  split <;> rfl⟩
theorem cl10_w : ∀ k, k < 19 → u_lay RX10 TX10 k ∈ GW := by
  intro k hk
  match k, hk with
  | 0, _ => exact gw472
  | 1, _ => exact gw474
  | 2, _ => exact gw476
  | 3, _ => exact gw478
  | 4, _ => exact gw480
  | 5, _ => exact gw482
  | 6, _ => exact gw484
  | 7, _ => exact gw486
  | 8, _ => exact gw488
  | 9, _ => exact gw490
  | 10, _ => exact gw492
  | 11, _ => exact gw494
  | 12, _ => exact gw496
  | 13, _ => exact gw498
  | 14, _ => exact gw500
  | 15, _ => exact gw502
  | 16, _ => exact gw504
  | 17, _ => exact gw506
  | 18, _ => exact gw508
  | k + 19, hk => exact absurd hk (by omega)
theorem cl10 : ClF 10 := ⟨rfl, fun w hw => by
  obtain ⟨k, hk, rfl⟩ := List.mem_map.mp hw
  exact cl10_w k (List.mem_range.mp hk), tyX10_ok, nmX10, fun k _ => by
  show (TX10 k).1 = RX10
  unfold TX10 RX10
  split <;> rfl⟩
theorem cl11_w : ∀ k, k < 10 → u_lay RX11 TX11 k ∈ GW := by
  intro k hk
  match k, hk with
  | 0, _ => exact gw561
  | 1, _ => exact gw563
  | 2, _ => exact gw565
  | 3, _ => exact gw567
  | 4, _ => exact gw569
  | 5, _ => exact gw571
  | 6, _ => exact gw573
  | 7, _ => exact gw575
  | 8, _ => exact gw577
  | 9, _ => exact gw579
  | k + 10, hk => exact absurd hk (by omega)
theorem cl11 : ClF 11 := ⟨rfl, fun w hw => by
  obtain ⟨k, hk, rfl⟩ := List.mem_map.mp hw
  exact cl11_w k (List.mem_range.mp hk), tyX11_ok, nmX11, fun k _ => by
  show (TX11 k).1 = RX11
  unfold TX11 RX11
  split <;> rfl⟩
theorem cl12_w : ∀ k, k < 69 → u_lay RX12 TX12 k ∈ GW := by
  intro k hk
  match k, hk with
  | 0, _ => exact gw1385
  | 1, _ => exact gw1387
  | 2, _ => exact gw1389
  | 3, _ => exact gw1391
  | 4, _ => exact gw1393
  | 5, _ => exact gw1395
  | 6, _ => exact gw1397
  | 7, _ => exact gw1399
  | 8, _ => exact gw1401
  | 9, _ => exact gw1403
  | 10, _ => exact gw1405
  | 11, _ => exact gw1407
  | 12, _ => exact gw1409
  | 13, _ => exact gw1411
  | 14, _ => exact gw1413
  | 15, _ => exact gw1415
  | 16, _ => exact gw1417
  | 17, _ => exact gw1419
  | 18, _ => exact gw1421
  | 19, _ => exact gw1423
  | 20, _ => exact gw1425
  | 21, _ => exact gw1427
  | 22, _ => exact gw1429
  | 23, _ => exact gw1431
  | 24, _ => exact gw1433
  | 25, _ => exact gw1435
  | 26, _ => exact gw1437
  | 27, _ => exact gw1439
  | 28, _ => exact gw1441
  | 29, _ => exact gw1443
  | 30, _ => exact gw1445
  | 31, _ => exact gw1447
  | 32, _ => exact gw1449
  | 33, _ => exact gw1451
  | 34, _ => exact gw1453
  | 35, _ => exact gw1455
  | 36, _ => exact gw1457
  | 37, _ => exact gw1459
  | 38, _ => exact gw1461
  | 39, _ => exact gw1463
  | 40, _ => exact gw1465
  | 41, _ => exact gw1467
  | 42, _ => exact gw1469
  | 43, _ => exact gw1471
  | 44, _ => exact gw1473
  | 45, _ => exact gw1475
  | 46, _ => exact gw1477
  | 47, _ => exact gw1479
  | 48, _ => exact gw1481
  | 49, _ => exact gw1483
  | 50, _ => exact gw1485
  | 51, _ => exact gw1487
  | 52, _ => exact gw1489
  | 53, _ => exact gw1491
  | 54, _ => exact gw1493
  | 55, _ => exact gw1495
  | 56, _ => exact gw1497
  | 57, _ => exact gw1499
  | 58, _ => exact gw1501
  | 59, _ => exact gw1503
  | 60, _ => exact gw1505
  | 61, _ => exact gw1507
  | 62, _ => exact gw1509
  | 63, _ => exact gw1511
  | 64, _ => exact gw1513
  | 65, _ => exact gw1515
  | 66, _ => exact gw1517
  | 67, _ => exact gw1519
  | 68, _ => exact gw1521
  | k + 69, hk => exact absurd hk (by omega)
theorem cl12 : ClF 12 := ⟨rfl, fun w hw => by
  obtain ⟨k, hk, rfl⟩ := List.mem_map.mp hw
  exact cl12_w k (List.mem_range.mp hk), tyX12_ok, nmX12, fun k _ => by
  show (TX12 k).1 = RX12
  unfold TX12 RX12
  split <;> rfl⟩
theorem rowW : RowW := ⟨cl5, gw35, gw36, ⟨gw42, gw134, gw135, gw10, gw136, gw137, gw139, gw138, gw11⟩, ⟨gw124, gw125, gw9, gw126⟩, ⟨gw919, gw920⟩⟩
